/-! the scope of the desk -/
section SC
variable {cs : Nat → Value} {d b top sl : Nat} {σ : am_H} {vs : List (List Nat × Nat)}
theorem x_isFull (h : X_sco σ b vs) : am_to cd_t cs d 63 0 (am_ent 1 [.ref (b + 6)]) [] σ top sl (.inl (some (.int (if vs.length = 5 then 1 else 0))), σ, top, sl) := by
  have h1 := h.1
  have h2 := h.2.1
  refine x_n cd_i63_0 rfl rfl ?_
  refine x_getf cd_i63_1 (by assumption) rfl rfl ?_
  refine x_ic cd_i63_4 (z := ii 5) rfl ?_
  show am_to cd_t _ _ 63 5 _ _ _ _ _ _
  refine x_icmp cd_i63_5 (fun z => ?_) (fun z => ?_)
  · rw [if_neg (fun e => z (by rw [e]))]
    refine x_ic cd_i63_12 (z := ii 0) rfl ?_
    show am_to cd_t _ _ 63 13 _ _ _ _ _ _
    exact x_end cd_i63_13 rfl rfl rfl
  · rw [if_pos ((ii_eq (by omega) (by decide)).mp (Decidable.not_not.mp (show ¬ ¬ ii vs.length = ii 5 from z)))]
    refine x_ic cd_i63_8 (z := ii 1) rfl ?_
    refine x_n cd_i63_9 rfl rfl ?_
    show am_to cd_t _ _ 63 13 _ _ _ _ _ _
    exact x_end cd_i63_13 rfl rfl rfl
theorem x_typeOf_loop {w : List Nat} (h : X_sco σ b vs) (hw : ∀ c ∈ w, 97 ≤ c ∧ c ≤ 122) (hw4 : w.length ≤ 4) : ∀ (n j : Nat), j + n = vs.length →
    am_to cd_t cs d 66 2 [some (.ref (b + 6)), some (.int (ii (n256 w))), some (.int (ii j))] [] σ top sl (.inl (some (.int (oi (varT (vs.drop j) w)))), σ, top, sl) := by
  obtain ⟨h1, h2, h3, f, g, h4, h5, h6⟩ := h
  intro n
  induction n with
  | zero =>
    intro j hj
    rw [List.drop_of_length_le (by omega)]
    refine x_n cd_i66_2 rfl rfl ?_
    refine x_n cd_i66_3 rfl rfl ?_
    refine x_getf cd_i66_4 (by assumption) rfl rfl ?_
    show am_to cd_t _ _ 66 7 _ _ _ _ _ _
    refine x_icmp_t cd_i66_7 ((ii_le (by omega) (by omega)).mpr (by omega)) ?_
    refine x_ic cd_i66_33 (z := (-1)) rfl ?_
    show am_to cd_t _ _ 66 34 _ _ _ _ _ _
    exact x_end cd_i66_34 rfl rfl rfl
  | succ n ih =>
    intro j hj
    have hlt : j < vs.length := by omega
    obtain ⟨q1, q2⟩ := h6 j hlt
    have hd0 : vs.getD j default = vs[j] := by rw [List.getD_eq_getElem?_getD, List.getElem?_eq_getElem hlt]; rfl
    rw [hd0] at q1 q2
    obtain ⟨m1, m2, m3, m4⟩ := h3 vs[j] (List.getElem_mem hlt)
    refine x_n cd_i66_2 rfl rfl ?_
    refine x_n cd_i66_3 rfl rfl ?_
    refine x_getf cd_i66_4 (by assumption) rfl rfl ?_
    show am_to cd_t _ _ 66 7 _ _ _ _ _ _
    refine x_icmp_f cd_i66_7 (fun z => by have := (ii_le (by omega) (by omega)).mp (show ii vs.length ≤ ii j from z); omega) ?_
    refine x_n cd_i66_10 rfl rfl ?_
    refine x_getf cd_i66_11 (by assumption) rfl rfl ?_
    refine x_n cd_i66_14 rfl rfl ?_
    show am_to cd_t _ _ 66 15 _ _ _ _ _ _
    refine x_iaload cd_i66_15 h4 (by omega) (by decide) ?_
    rw [q1]
    refine x_n cd_i66_16 rfl rfl ?_
    show am_to cd_t _ _ 66 17 _ _ _ _ _ _
    rw [List.drop_eq_getElem_cons hlt]
    unfold varT
    rw [List.find?_cons]
    by_cases e : vs[j].1 = w
    · rw [show (vs[j].1 == w) = true from beq_iff_eq.mpr e]
      refine x_icmp_f cd_i66_17 (fun z => z (by rw [e])) ?_
      refine x_n cd_i66_20 rfl rfl ?_
      refine x_getf cd_i66_21 (by assumption) rfl rfl ?_
      refine x_n cd_i66_24 rfl rfl ?_
      show am_to cd_t _ _ 66 25 _ _ _ _ _ _
      refine x_iaload cd_i66_25 h5 (by omega) (by decide) ?_
      rw [q2]
      exact x_end cd_i66_26 rfl rfl rfl
    · rw [show (vs[j].1 == w) = false from beq_eq_false_iff_ne.mpr e]
      refine x_icmp_t cd_i66_17 (fun z => e (n256_inj m1 hw ((ii_eq (n256_small m1 m3) (n256_small hw hw4)).mp z))) ?_
      refine x_iinc cd_i66_27 rfl (z := ii (j + 1)) (ii_add j 1) rfl ?_
      refine x_n cd_i66_30 rfl rfl ?_
      show am_to cd_t _ _ 66 2 _ _ _ _ _ _
      exact ih (j + 1) (by omega)
theorem x_typeOf {w : List Nat} (h : X_sco σ b vs) (hw : ∀ c ∈ w, 97 ≤ c ∧ c ≤ 122) (hw4 : w.length ≤ 4) : am_to cd_t cs d 66 0 (am_ent 3 [.ref (b + 6), .int (ii (n256 w))]) [] σ top sl (.inl (some (.int (oi (varT vs w)))), σ, top, sl) := by
  have h1 := x_typeOf_loop (cs := cs) (d := d) (top := top) (sl := sl) h hw hw4 vs.length 0 (by omega)
  rw [List.drop_zero] at h1
  refine x_ic cd_i66_0 (z := ii 0) rfl ?_
  refine x_n cd_i66_1 rfl rfl ?_
  try dsimp only [List.set]
  show am_to cd_t _ _ 66 2 _ _ _ _ _ _
  exact h1
theorem x_scoAdd {w : List Nat} {t : Nat} (hd : 0 < d) (h : X_sco σ b vs) (hw : ∀ c ∈ w, 97 ≤ c ∧ c ≤ 122) (hw1 : 1 ≤ w.length) (hw4 : w.length ≤ 4) (ht : t < 13) (hfull : ¬ vs.length = 5) :
    ∃ σ', am_to cd_t cs d 65 0 (am_ent 3 [.ref (b + 6), .int (ii (n256 w)), .int (ii t)]) [] σ top sl (.inl (some (.int (if varT vs w = none then 1 else 0))), σ', top, sl) ∧ X_sco σ' b (if varT vs w = none then vs ++ [(w, t)] else vs) ∧ ∀ q, q < b + 6 ∨ b + 9 ≤ q → σ' q = σ q := by
  obtain ⟨h1, h2, h3, f, g, h4, h5, h6⟩ := id h
  have pre : ∀ res, am_to cd_t cs d 65 13 (am_ent 3 [.ref (b + 6), .int (ii (n256 w)), .int (ii t)]) [.int (-1), .int (oi (varT vs w))] σ top sl res → am_to cd_t cs d 65 0 (am_ent 3 [.ref (b + 6), .int (ii (n256 w)), .int (ii t)]) [] σ top sl res := by
    intro res hh
    refine x_n cd_i65_0 rfl rfl ?_
    show am_to cd_t _ _ 65 1 _ _ _ _ _ _
    refine x_callv (as' := []) cd_i65_1 h1 hd rfl rfl rfl rfl rfl rfl (x_isFull h) ?_
    rw [if_neg hfull]
    refine x_if_f cd_i65_4 (fun z => z rfl) ?_
    refine x_n cd_i65_7 rfl rfl ?_
    refine x_n cd_i65_8 rfl rfl ?_
    show am_to cd_t _ _ 65 9 _ _ _ _ _ _
    refine x_callv (as' := [.int (ii (n256 w))]) cd_i65_9 h1 hd rfl rfl rfl rfl rfl rfl (x_typeOf h hw hw4) ?_
    refine x_ic cd_i65_12 (z := (-1)) rfl ?_
    show am_to cd_t _ _ 65 13 _ _ _ _ _ _
    exact hh
  cases hv : varT vs w with
  | some ty =>
    rw [if_neg (by simp), if_neg (by simp)]
    refine ⟨σ, pre _ ?_, h, fun _ _ => rfl⟩
    rw [hv]
    have hty : ty < 13 := by
      unfold varT at hv
      cases hf : vs.find? (fun q => q.1 == w) with
      | none => rw [hf] at hv; cases hv
      | some q =>
        rw [hf] at hv
        cases hv
        exact (h3 q (List.mem_of_find?_eq_some hf)).2.2.2
    refine x_icmp_f cd_i65_13 (fun z => ii_ne1 (by omega) (show ii ty = -1 from z)) ?_
    refine x_ic cd_i65_16 (z := ii 0) rfl ?_
    show am_to cd_t _ _ 65 17 _ _ _ _ _ _
    exact x_end cd_i65_17 rfl rfl rfl
  | none =>
    rw [if_pos rfl, if_pos rfl]
    obtain ⟨s1, hs1⟩ : ∃ s, s = am_up σ (b + 7) (.inl (.int, 5, .inl (upd f vs.length (ii (n256 w))))) := ⟨_, rfl⟩
    obtain ⟨s2, hs2⟩ : ∃ s, s = am_up s1 (b + 8) (.inl (.int, 5, .inl (upd g vs.length (ii t)))) := ⟨_, rfl⟩
    have e1 : s1 (b + 6) = some (.inr (.inl (9, [.ref (b + 7), .ref (b + 8), .int (ii vs.length)]))) := by rw [hs1, am_up_ne _ _ (by omega)]; exact h1
    have e2 : s2 (b + 6) = some (.inr (.inl (9, [.ref (b + 7), .ref (b + 8), .int (ii vs.length)]))) := by rw [hs2, am_up_ne _ _ (by omega)]; exact e1
    have e3 : s1 (b + 8) = some (.inl (.int, 5, .inl g)) := by rw [hs1, am_up_ne _ _ (by omega)]; exact h5
    refine ⟨am_up s2 (b + 6) (.inr (.inl (9, [.ref (b + 7), .ref (b + 8), .int (ii (vs.length + 1))]))), pre _ ?_, ⟨?_, ?_, ?_, upd f vs.length (ii (n256 w)), upd g vs.length (ii t), ?_, ?_, fun j hj => ?_⟩, fun q hq => ?_⟩
    · rw [hv]
      refine x_icmp_t cd_i65_13 rfl ?_
      refine x_n cd_i65_18 rfl rfl ?_
      refine x_getf cd_i65_19 (by assumption) rfl rfl ?_
      refine x_n cd_i65_22 rfl rfl ?_
      refine x_getf cd_i65_23 (by assumption) rfl rfl ?_
      refine x_n cd_i65_26 rfl rfl ?_
      show am_to cd_t _ _ 65 27 _ _ _ _ _ _
      refine x_iastore cd_i65_27 h4 (by omega) (by decide) ?_
      refine hs1 ▸ ?_
      refine x_n cd_i65_28 rfl rfl ?_
      refine x_getf cd_i65_29 (by assumption) rfl rfl ?_
      refine x_n cd_i65_32 rfl rfl ?_
      refine x_getf cd_i65_33 (by assumption) rfl rfl ?_
      refine x_n cd_i65_36 rfl rfl ?_
      show am_to cd_t _ _ 65 37 _ _ _ _ _ _
      refine x_iastore cd_i65_37 e3 (by omega) (by decide) ?_
      refine hs2 ▸ ?_
      refine x_n cd_i65_38 rfl rfl ?_
      refine x_n cd_i65_39 rfl rfl ?_
      refine x_getf cd_i65_40 (by assumption) rfl rfl ?_
      refine x_ic cd_i65_43 (z := ii 1) rfl ?_
      show am_to cd_t _ _ 65 44 _ _ _ _ _ _
      refine x_iadd cd_i65_44 (z := ii (vs.length + 1)) (ii_add _ _) ?_
      refine x_putf cd_i65_45 (fs' := [.ref (b + 7), .ref (b + 8), .int (ii (vs.length + 1))]) e2 rfl rfl rfl ?_
      refine x_ic cd_i65_48 (z := ii 1) rfl ?_
      show am_to cd_t _ _ 65 49 _ _ _ _ _ _
      exact x_end cd_i65_49 rfl rfl rfl
    · rw [am_up_self, List.length_append]
      rfl
    · rw [List.length_append]
      show vs.length + 1 ≤ 5
      omega
    · intro q hq
      rcases List.mem_append.mp hq with hq | hq
      · exact h3 q hq
      · rw [List.mem_singleton] at hq
        subst hq
        exact ⟨hw, hw1, hw4, ht⟩
    · rw [am_up_ne _ _ (by omega), hs2, am_up_ne _ _ (by omega), hs1, am_up_self]
    · rw [am_up_ne _ _ (by omega), hs2, am_up_self]
    · rw [List.length_append] at hj
      have hj : j < vs.length + 1 := hj
      unfold upd
      by_cases e : j = vs.length
      · rw [if_pos e, if_pos e, e, List.getD_eq_getElem?_getD, List.getElem?_append_right (Nat.le_refl _), Nat.sub_self]
        exact ⟨rfl, rfl⟩
      · rw [if_neg e, if_neg e, List.getD_eq_getElem?_getD, List.getElem?_append_left (by omega), ← List.getD_eq_getElem?_getD]
        exact h6 j (by omega)
    · rw [am_up_ne _ _ (by omega), hs2, am_up_ne _ _ (by omega), hs1, am_up_ne _ _ (by omega)]
end SC
