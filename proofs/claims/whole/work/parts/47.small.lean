/-! the small calls -/
section SM
variable {cs : Nat → Value} {d b m top sl : Nat} {σ : am_H}
abbrev X_o (σ : am_H) (b : Nat) (v : Value) : Prop := σ b = some (.inr (.inl (0, [.ref (b + 1), .ref (b + 3), .ref (b + 6), .ref (b + 9), .ref (b + 10), .ref (b + 11), v])))
theorem x_checked {v : Int32} (hx : X_o σ b (.int v)) : am_to cd_t cs d 13 0 (am_ent 1 [.ref b]) [] σ top sl (.inl (some (.int v)), σ, top, sl) := by
  refine x_n cd_i13_0 rfl rfl ?_
  refine x_getf cd_i13_1 (by assumption) rfl rfl ?_
  show am_to cd_t _ _ 13 4 _ _ _ _ _ _
  exact x_end cd_i13_4 rfl rfl rfl
theorem m_checked {i : Nat → Int32} {a : Nat → Nat → Int32} (hM : mo σ m i a) : am_to cd_t cs d 152 0 (am_ent 1 [.ref m]) [] σ top sl (.inl (some (.int (i 32))), am_up σ m (.inr (.inl (11, mo_f m (upd i 0 0)))), top, sl) := by
  refine x_n cd_i152_0 rfl rfl ?_
  refine x_ic cd_i152_1 (z := ii 0) rfl ?_
  show am_to cd_t _ _ 152 2 _ _ _ _ _ _
  refine x_putf cd_i152_2 (fs' := mo_f m (upd i 0 0)) hM.1 rfl rfl rfl ?_
  have hM1 := hM.put (upd i 0 0)
  refine x_n cd_i152_5 rfl rfl ?_
  show am_to cd_t _ _ 152 6 _ _ _ _ _ _
  refine x_getf cd_i152_6 hM1.1 rfl rfl ?_
  exact x_end cd_i152_9 rfl rfl rfl
theorem m_thrown {i : Nat → Int32} {a : Nat → Nat → Int32} (hM : mo σ m i a) : am_to cd_t cs d 99 0 (am_ent 1 [.ref m]) [] σ top sl (.inl (some (.int (i 0))), σ, top, sl) := by
  refine x_n cd_i99_0 rfl rfl ?_
  show am_to cd_t _ _ 99 1 _ _ _ _ _ _
  refine x_getf cd_i99_1 hM.1 rfl rfl ?_
  exact x_end cd_i99_4 rfl rfl rfl
theorem x_forget {v w : Value} (hx : X_o σ b v) (hS : σ (b + 6) = some (.inr (.inl (9, [.ref (b + 7), .ref (b + 8), w])))) : am_to cd_t cs d 12 0 (am_ent 1 [.ref b]) [] σ top sl (.inl none, am_up σ (b + 6) (.inr (.inl (9, [.ref (b + 7), .ref (b + 8), .int 0]))), top, sl) := by
  refine x_n cd_i12_0 rfl rfl ?_
  refine x_getf cd_i12_1 (by assumption) rfl rfl ?_
  refine x_ic cd_i12_4 (z := ii 0) rfl ?_
  show am_to cd_t _ _ 12 5 _ _ _ _ _ _
  refine x_putf cd_i12_5 (fs' := [.ref (b + 7), .ref (b + 8), .int 0]) hS rfl rfl rfl ?_
  exact x_end cd_i12_8 rfl rfl rfl
theorem m_forget {i : Nat → Int32} {a : Nat → Nat → Int32} (hM : mo σ m i a) : ∃ σ', am_to cd_t cs d 125 0 (am_ent 1 [.ref m]) [] σ top sl (.inl none, σ', top, sl) ∧ mo σ' m (upd (upd i 0 0) 15 0) a ∧ ∀ q, q < m ∨ m + 25 ≤ q → σ' q = σ q := by
  have hM1 := hM.put (upd i 0 0)
  refine ⟨_, ?_, hM1.put (upd (upd i 0 0) 15 0), fun q hq => by rw [am_up_ne _ _ (by omega), am_up_ne _ _ (by omega)]⟩
  refine x_n cd_i125_0 rfl rfl ?_
  refine x_ic cd_i125_1 (z := ii 0) rfl ?_
  show am_to cd_t _ _ 125 2 _ _ _ _ _ _
  refine x_putf cd_i125_2 (fs' := mo_f m (upd i 0 0)) hM.1 rfl rfl rfl ?_
  refine x_n cd_i125_5 rfl rfl ?_
  refine x_ic cd_i125_6 (z := ii 0) rfl ?_
  show am_to cd_t _ _ 125 7 _ _ _ _ _ _
  refine x_putf cd_i125_7 (fs' := mo_f m (upd (upd i 0 0) 15 0)) hM1.1 rfl rfl rfl ?_
  exact x_end cd_i125_10 rfl rfl rfl
theorem x_isClass {c : Int32} : am_to cd_t cs d 24 0 (am_ent 1 [.int c]) [] σ top sl (.inl (some (.int (if 0 ≤ c.toInt ∧ c.toInt < 10 then 1 else 0))), σ, top, sl) := by
  refine x_n cd_i24_0 rfl rfl ?_
  show am_to cd_t _ _ 24 1 _ _ _ _ _ _
  refine x_if cd_i24_1 (fun z => ?_) (fun z => ?_)
  · have z1 := Int32.lt_iff_toInt_lt.mp (show c < 0 from z)
    rw [Int32.toInt_zero] at z1
    rw [if_neg (by omega)]
    refine x_ic cd_i24_14 (z := ii 0) rfl ?_
    show am_to cd_t _ _ 24 15 _ _ _ _ _ _
    exact x_end cd_i24_15 rfl rfl rfl
  · have z1 := mt Int32.lt_iff_toInt_lt.mpr (show ¬ c < 0 from z)
    rw [Int32.toInt_zero] at z1
    refine x_n cd_i24_4 rfl rfl ?_
    refine x_bi cd_i24_5 (z := ii 10) (by decide) ?_
    show am_to cd_t _ _ 24 7 _ _ _ _ _ _
    refine x_icmp cd_i24_7 (fun y => ?_) (fun y => ?_)
    · have y1 := (c_le (by decide)).mp (show ii 10 ≤ c from y)
      rw [if_neg (by omega)]
      refine x_ic cd_i24_14 (z := ii 0) rfl ?_
      show am_to cd_t _ _ 24 15 _ _ _ _ _ _
      exact x_end cd_i24_15 rfl rfl rfl
    · have y1 := mt (c_le (n := c) (k := 10) (by decide)).mpr y
      rw [if_pos (by omega)]
      refine x_ic cd_i24_10 (z := ii 1) rfl ?_
      refine x_n cd_i24_11 rfl rfl ?_
      show am_to cd_t _ _ 24 15 _ _ _ _ _ _
      exact x_end cd_i24_15 rfl rfl rfl
theorem x_enter_ok {c : Int32} {v w : Value} (hd : 0 < d) (hx : X_o σ b v) (hC : σ (b + 3) = some (.inr (.inl (2, [.ref (b + 4), .ref (b + 5), w])))) (hc : -1 ≤ c.toInt ∧ c.toInt < 10) :
    am_to cd_t cs d 67 0 (am_ent 2 [.ref b, .int c]) [] σ top sl (.inl none, am_up σ (b + 3) (.inr (.inl (2, [.ref (b + 4), .ref (b + 5), .int c]))), top, sl) := by
  have fin : am_to cd_t cs d 67 20 (am_ent 2 [.ref b, .int c]) [] σ top sl (.inl none, am_up σ (b + 3) (.inr (.inl (2, [.ref (b + 4), .ref (b + 5), .int c]))), top, sl) := by
    refine x_n cd_i67_20 rfl rfl ?_
    refine x_getf cd_i67_21 (by assumption) rfl rfl ?_
    refine x_n cd_i67_24 rfl rfl ?_
    show am_to cd_t _ _ 67 25 _ _ _ _ _ _
    refine x_putf cd_i67_25 (fs' := [.ref (b + 4), .ref (b + 5), .int c]) hC rfl rfl rfl ?_
    exact x_end cd_i67_28 rfl rfl rfl
  refine x_n cd_i67_0 rfl rfl ?_
  refine x_ic cd_i67_1 (z := (-1)) rfl ?_
  show am_to cd_t _ _ 67 2 _ _ _ _ _ _
  refine x_icmp cd_i67_2 (fun z => fin) (fun z => ?_)
  have z1 : c.toInt ≠ -1 := fun e => z (by
    show c = -1
    rw [← Int32.toInt_inj, e]
    decide)
  refine x_n cd_i67_5 rfl rfl ?_
  show am_to cd_t _ _ 67 6 _ _ _ _ _ _
  refine x_calls (as := [.int c]) cd_i67_6 hd rfl rfl rfl rfl rfl rfl x_isClass ?_
  rw [if_pos (by omega)]
  exact x_if_t cd_i67_9 (fun z => absurd (show (1 : Int32) = 0 from z) (by decide)) fin
theorem x_enter_no {c : Int32} (hd : 5 < d) (hc : ¬ (-1 ≤ c.toInt ∧ c.toInt < 10)) :
    am_to cd_t cs d 67 0 (am_ent 2 [.ref b, .int c]) [] σ top sl (.inr top, am_up σ top (.inr (.inl (12, []))), top + 1, sl + 6) := by
  refine x_n cd_i67_0 rfl rfl ?_
  refine x_ic cd_i67_1 (z := (-1)) rfl ?_
  show am_to cd_t _ _ 67 2 _ _ _ _ _ _
  refine x_icmp_f cd_i67_2 (fun z => hc (by
    rw [show c = -1 from z]
    decide)) ?_
  refine x_n cd_i67_5 rfl rfl ?_
  show am_to cd_t _ _ 67 6 _ _ _ _ _ _
  refine x_calls (as := [.int c]) cd_i67_6 (by omega) rfl rfl rfl rfl rfl rfl x_isClass ?_
  rw [if_neg (by omega)]
  refine x_if_f cd_i67_9 (fun z => z rfl) ?_
  exact am_to_throw (t := cd_t) cd_i67_12 rfl (by omega) (by decide)
/-- the law's call of enter -/
theorem l_enter {c : Int32} {v w : Value} (hd : 6 < d) (hx : X_o σ b v) (hC : σ (b + 3) = some (.inr (.inl (2, [.ref (b + 4), .ref (b + 5), w])))) :
    (-1 ≤ c.toInt ∧ c.toInt < 10 → am_to cd_t cs d 159 0 (am_ent 3 [.ref b, .int c]) [] σ top sl (.inl (some (.int 0)), am_up σ (b + 3) (.inr (.inl (2, [.ref (b + 4), .ref (b + 5), .int c]))), top, sl)) ∧
    (¬ (-1 ≤ c.toInt ∧ c.toInt < 10) → am_to cd_t cs d 159 0 (am_ent 3 [.ref b, .int c]) [] σ top sl (.inl (some (.int 1)), am_up σ top (.inr (.inl (12, []))), top + 1, sl + 6)) := by
  constructor
  · intro hc
    refine x_n cd_i159_0 rfl rfl ?_
    refine x_n cd_i159_1 rfl rfl ?_
    show am_to cd_t _ _ 159 2 _ _ _ _ _ _
    refine x_callv (as' := [.int c]) (r := none) cd_i159_2 hx (by omega) rfl rfl rfl rfl rfl rfl (x_enter_ok (by omega) hx hC hc) ?_
    refine x_n cd_i159_5 rfl rfl ?_
    refine x_ic cd_i159_11 (z := ii 0) rfl ?_
    show am_to cd_t _ _ 159 12 _ _ _ _ _ _
    exact x_end cd_i159_12 rfl rfl rfl
  · intro hc
    refine x_n cd_i159_0 rfl rfl ?_
    refine x_n cd_i159_1 rfl rfl ?_
    show am_to cd_t _ _ 159 2 _ _ _ _ _ _
    refine am_to_catch (t := cd_t) (as := [.ref b, .int c]) (rest := []) (h := 8) cd_i159_2 rfl ?_ (by decide) (by decide) ⟨by show 2 ≤ 2; decide, rfl⟩ (x_enter_no (b := b) (by omega) hc) ?_ ?_
    · show am_call cd_mc d _ σ _ 67 1 = _
      dsimp only [am_call]
      rw [if_neg (by omega)]
      show (match σ b with
        | some (.inr (.inl (c', _))) => if c' = cd_mc 67 then some (Value.ref b :: [Value.int c], ([] : List Value)) else none
        | some (.inr (.inr (1, _, _))) => if cd_mc 67 = 50 then some (Value.ref b :: [Value.int c], ([] : List Value)) else none
        | _ => none) = _
      rw [hx]
      rfl
    · unfold am_hd
      rw [am_up_self]
      rfl
    · refine x_n cd_i159_8 rfl rfl ?_
      try dsimp only [List.set]
      refine x_ic cd_i159_9 (z := ii 1) rfl ?_
      show am_to cd_t _ _ 159 10 _ _ _ _ _ _
      exact x_end cd_i159_10 rfl rfl rfl
theorem m_enter {i : Nat → Int32} {a : Nat → Nat → Int32} {c : Int32} (hd : 0 < d) (hM : mo σ m i a) :
    ∃ (σ' : am_H) (i' : Nat → Int32), am_to cd_t cs d 126 0 (am_ent 2 [.ref m, .int c]) [] σ top sl (.inl none, σ', top, sl) ∧ mo σ' m i' a ∧ M_same [0, 18] [] i i' a a ∧ i' 0 = (if -1 ≤ c.toInt ∧ c.toInt < 10 then 0 else 1) ∧ i' 18 = (if -1 ≤ c.toInt ∧ c.toInt < 10 then c else i 18) ∧ ∀ q, q < m ∨ m + 25 ≤ q → σ' q = σ q := by
  have hout : (c < -1 ∨ ii 9 < c) ↔ ¬ (-1 ≤ c.toInt ∧ c.toInt < 10) := by
    rw [c_lt (by decide), Int32.lt_iff_toInt_lt, show (-1 : Int32).toInt = -1 by decide]
    omega
  by_cases hc : -1 ≤ c.toInt ∧ c.toInt < 10
  · rw [if_pos hc, if_pos hc]
    have hM1 := hM.put (upd i 0 0)
    have hM2 := hM1.put (upd (upd i 0 0) 18 c)
    refine ⟨_, _, ?_, hM2, (M_same.num _ 0 0 (by decide)).trans (M_same.num _ 18 c (by decide)), rfl, rfl, fun q hq => by rw [am_up_ne _ _ (by omega), am_up_ne _ _ (by omega)]⟩
    refine x_n cd_i126_0 rfl rfl ?_
    refine x_n cd_i126_1 rfl rfl ?_
    refine x_ic cd_i126_2 (z := (-1)) rfl ?_
    refine x_bi cd_i126_3 (z := ii 9) (by decide) ?_
    show am_to cd_t _ _ 126 5 _ _ _ _ _ _
    refine x_calls (as := [.int c, .int (-1), .int (ii 9)]) cd_i126_5 hd rfl rfl rfl rfl rfl rfl m_outside ?_
    rw [if_neg (fun z => hout.mp z hc)]
    refine x_if_t cd_i126_8 rfl ?_
    refine x_ic cd_i126_15 (z := ii 0) rfl ?_
    show am_to cd_t _ _ 126 16 _ _ _ _ _ _
    refine x_putf cd_i126_16 (fs' := mo_f m (upd i 0 0)) hM.1 rfl rfl rfl ?_
    refine x_n cd_i126_19 rfl rfl ?_
    refine x_n cd_i126_20 rfl rfl ?_
    show am_to cd_t _ _ 126 21 _ _ _ _ _ _
    refine x_getf cd_i126_21 hM1.1 rfl rfl ?_
    refine x_if_f cd_i126_24 (fun z => z rfl) ?_
    refine x_n cd_i126_27 rfl rfl ?_
    refine x_n cd_i126_28 rfl rfl ?_
    show am_to cd_t _ _ 126 35 _ _ _ _ _ _
    refine x_putf cd_i126_35 (fs' := mo_f m (upd (upd i 0 0) 18 c)) hM1.1 rfl rfl rfl ?_
    exact x_end cd_i126_38 rfl rfl rfl
  · rw [if_neg hc, if_neg hc]
    have hM1 := hM.put (upd i 0 1)
    have hM2 := hM1.put (upd (upd i 0 1) 18 (i 18))
    refine ⟨_, _, ?_, hM2, (M_same.num _ 0 1 (by decide)).trans (M_same.num _ 18 (i 18) (by decide)), rfl, rfl, fun q hq => by rw [am_up_ne _ _ (by omega), am_up_ne _ _ (by omega)]⟩
    refine x_n cd_i126_0 rfl rfl ?_
    refine x_n cd_i126_1 rfl rfl ?_
    refine x_ic cd_i126_2 (z := (-1)) rfl ?_
    refine x_bi cd_i126_3 (z := ii 9) (by decide) ?_
    show am_to cd_t _ _ 126 5 _ _ _ _ _ _
    refine x_calls (as := [.int c, .int (-1), .int (ii 9)]) cd_i126_5 hd rfl rfl rfl rfl rfl rfl m_outside ?_
    rw [if_pos (hout.mpr hc)]
    refine x_if_f cd_i126_8 (fun z => absurd (show (1 : Int32) = 0 from z) (by decide)) ?_
    refine x_ic cd_i126_11 (z := ii 1) rfl ?_
    refine x_n cd_i126_12 rfl rfl ?_
    show am_to cd_t _ _ 126 16 _ _ _ _ _ _
    refine x_putf cd_i126_16 (fs' := mo_f m (upd i 0 1)) hM.1 rfl rfl rfl ?_
    refine x_n cd_i126_19 rfl rfl ?_
    refine x_n cd_i126_20 rfl rfl ?_
    show am_to cd_t _ _ 126 21 _ _ _ _ _ _
    refine x_getf cd_i126_21 hM1.1 rfl rfl ?_
    refine x_if_t cd_i126_24 (fun z => absurd (show (1 : Int32) = 0 from z) (by decide)) ?_
    refine x_n cd_i126_31 rfl rfl ?_
    show am_to cd_t _ _ 126 32 _ _ _ _ _ _
    refine x_getf cd_i126_32 hM1.1 rfl rfl ?_
    refine x_putf cd_i126_35 (fs' := mo_f m (upd (upd i 0 1) 18 (i 18))) hM1.1 rfl rfl rfl ?_
    exact x_end cd_i126_38 rfl rfl rfl
end SM
