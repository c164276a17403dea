/-! reading letters: the desk's buffer -/
theorem shl_or {v c : Nat} (hv : v < 16777216) (hc : c < 256) : (ii v <<< (ii 8 &&& 31)) ||| ii c = ii (v * 256 + c) := by
  rw [show (ii 8 &&& 31 : Int32) = 8 by decide]
  apply Int32.toBitVec_inj.mp
  apply BitVec.eq_of_toNat_eq
  rw [Int32.toBitVec_or, Int32.toBitVec_shiftLeft, BitVec.toNat_or, show (8 : Int32).toBitVec.smod 32 = 8#32 by decide, BitVec.shiftLeft_eq', BitVec.toNat_shiftLeft, ii_bv (by omega), ii_bv (by omega), ii_bv (by omega), show (8#32).toNat = 8 by decide, Nat.shiftLeft_eq, Nat.mod_eq_of_lt (by omega)]
  have := Nat.shiftLeft_add_eq_or_of_lt (i := 8) (b := c) (by omega) v
  rw [Nat.shiftLeft_eq] at this
  omega
def low (c : Nat) : Bool := decide (97 ≤ c) && decide (c ≤ 122)
/-- the small letters from a place on -/
def wl (txt : List Nat) (p : Nat) : List Nat := (txt.drop p).takeWhile low
theorem wl_end {txt : List Nat} {p : Nat} (h : ¬ low (txt.getD p 0) = true) : wl txt p = [] := by
  unfold wl
  by_cases hp : p < txt.length
  · rw [List.drop_eq_getElem_cons hp, List.takeWhile_cons]
    rw [List.getD_eq_getElem?_getD, List.getElem?_eq_getElem hp] at h
    exact if_neg h
  · rw [List.drop_of_length_le (by omega)]
    rfl
theorem wl_cons {txt : List Nat} {p : Nat} (hp : p < txt.length) (h : low (txt.getD p 0) = true) : wl txt p = txt.getD p 0 :: wl txt (p + 1) := by
  unfold wl
  rw [List.getD_eq_getElem?_getD, List.getElem?_eq_getElem hp] at h ⊢
  rw [List.drop_eq_getElem_cons hp, List.takeWhile_cons]
  exact if_pos h
theorem wl_len (txt : List Nat) (p : Nat) (hp : p ≤ txt.length) : p + (wl txt p).length ≤ txt.length := by
  have h := (List.takeWhile_prefix (l := txt.drop p) low).length_le
  rw [List.length_drop] at h
  unfold wl
  omega
theorem getD_cok {txt : List Nat} (hT : ∀ c ∈ txt, cok c) (p : Nat) : txt.getD p 0 < 127 := by
  rw [List.getD_eq_getElem?_getD]
  cases h : txt[p]? with
  | none => decide
  | some c =>
    have := (hT c (List.mem_of_getElem? h)).2
    show c < 127
    omega
theorem getD_out {txt : List Nat} {p : Nat} (h : txt.length ≤ p) : txt.getD p 0 = 0 := by
  rw [List.getD_eq_getElem?_getD, List.getElem?_eq_none h]
  rfl
theorem getD_in {txt : List Nat} (hT : ∀ c ∈ txt, cok c) {p : Nat} (h : p < txt.length) : 32 ≤ txt.getD p 0 := by
  rw [List.getD_eq_getElem?_getD, List.getElem?_eq_getElem h]
  exact (hT _ (List.getElem_mem h)).1
/-- the class at a place, and the place behind it -/
def tkC (txt : List Nat) (p : Nat) : Option Nat × Nat := if 65 ≤ txt.getD p 0 ∧ txt.getD p 0 ≤ 74 then (some (txt.getD p 0 - 65), p + 1) else (none, p)
section BX
variable {cs : Nat → Value} {d b top sl : Nat} {σ : am_H} {txt : List Nat} {p : Nat}
/-- the buffer is read up to q now -/
theorem X_buf.at (h : X_buf σ b txt p) (q : Nat) : X_buf (am_up σ (b + 1) (.inr (.inl (1, [.ref (b + 2), .int (ii txt.length), .int (ii q)])))) b txt q := by
  obtain ⟨h1, h2, f, h3, h4⟩ := h
  exact ⟨am_up_self _ _ _, h2, f, (am_up_ne _ _ (by omega)).trans h3, h4⟩
theorem x_isAtEnd (h : X_buf σ b txt p) (hp : p ≤ txt.length) : am_to cd_t cs d 59 0 (am_ent 1 [.ref (b + 1)]) [] σ top sl (.inl (some (.int (if p = txt.length then 1 else 0))), σ, top, sl) := by
  obtain ⟨h1, h2, f, h3, h4⟩ := h
  refine x_n cd_i59_0 rfl rfl ?_
  refine x_getf cd_i59_1 (by assumption) rfl rfl ?_
  refine x_n cd_i59_4 rfl rfl ?_
  refine x_getf cd_i59_5 (by assumption) rfl rfl ?_
  show am_to cd_t _ _ 59 8 _ _ _ _ _ _
  refine x_icmp cd_i59_8 (fun z => ?_) (fun z => ?_)
  · rw [if_neg (fun e => z (by rw [e]))]
    refine x_ic cd_i59_15 (z := ii 0) rfl ?_
    show am_to cd_t _ _ 59 16 _ _ _ _ _ _
    exact x_end cd_i59_16 rfl rfl rfl
  · rw [if_pos ((ii_eq (by omega) (by omega)).mp (Decidable.not_not.mp (show ¬ ¬ ii p = ii txt.length from z)))]
    refine x_ic cd_i59_11 (z := ii 1) rfl ?_
    refine x_n cd_i59_12 rfl rfl ?_
    show am_to cd_t _ _ 59 16 _ _ _ _ _ _
    exact x_end cd_i59_16 rfl rfl rfl
theorem x_clear (h : X_buf σ b txt p) : ∃ σ', am_to cd_t cs d 60 0 (am_ent 1 [.ref (b + 1)]) [] σ top sl (.inl none, σ', top, sl) ∧ X_buf σ' b [] 0 ∧ ∀ q, q ≠ b + 1 → σ' q = σ q := by
  obtain ⟨h1, h2, f, h3, h4⟩ := h
  refine ⟨am_up (am_up σ (b + 1) (.inr (.inl (1, [.ref (b + 2), .int (ii 0), .int (ii p)])))) (b + 1) (.inr (.inl (1, [.ref (b + 2), .int (ii 0), .int (ii 0)]))), ?_, ⟨am_up_self _ _ _, by decide, f, ?_, fun j hj => absurd hj (Nat.not_lt_zero j)⟩, fun q hq => by rw [am_up_ne _ _ hq, am_up_ne _ _ hq]⟩
  · refine x_n cd_i60_0 rfl rfl ?_
    refine x_ic cd_i60_1 (z := ii 0) rfl ?_
    show am_to cd_t _ _ 60 2 _ _ _ _ _ _
    refine x_putf cd_i60_2 (fs' := [.ref (b + 2), .int (ii 0), .int (ii p)]) h1 rfl rfl rfl ?_
    refine x_n cd_i60_5 rfl rfl ?_
    refine x_ic cd_i60_6 (z := ii 0) rfl ?_
    show am_to cd_t _ _ 60 7 _ _ _ _ _ _
    refine x_putf cd_i60_7 (fs' := [.ref (b + 2), .int (ii 0), .int (ii 0)]) (am_up_self _ _ _) rfl rfl rfl ?_
    exact x_end cd_i60_10 rfl rfl rfl
  · rw [am_up_ne _ _ (by omega), am_up_ne _ _ (by omega)]
    exact h3
theorem x_isAt {c : Nat} (h : X_buf σ b txt p) (hT : ∀ c ∈ txt, cok c) (hp : p ≤ txt.length) (hc : 0 < c) (hc2 : c < 127) : am_to cd_t cs d 35 0 (am_ent 2 [.ref (b + 1), .int (ii c)]) [] σ top sl (.inl (some (.int (if txt.getD p 0 = c then 1 else 0))), σ, top, sl) := by
  obtain ⟨h1, h2, f, h3, h4⟩ := h
  have hl := getD_cok hT p
  refine x_n cd_i35_0 rfl rfl ?_
  refine x_getf cd_i35_1 (by assumption) rfl rfl ?_
  refine x_n cd_i35_4 rfl rfl ?_
  refine x_getf cd_i35_5 (by assumption) rfl rfl ?_
  show am_to cd_t _ _ 35 8 _ _ _ _ _ _
  by_cases hlt : p < txt.length
  · refine x_icmp_f cd_i35_8 (fun z => by have := (ii_le (by omega) (by omega)).mp (show ii txt.length ≤ ii p from z); omega) ?_
    refine x_n cd_i35_11 rfl rfl ?_
    refine x_getf cd_i35_12 (by assumption) rfl rfl ?_
    refine x_n cd_i35_15 rfl rfl ?_
    refine x_getf cd_i35_16 (by assumption) rfl rfl ?_
    show am_to cd_t _ _ 35 19 _ _ _ _ _ _
    refine x_caload cd_i35_19 h3 (by omega) (by decide) ?_
    rw [h4 p hlt]
    refine x_n cd_i35_20 rfl rfl ?_
    show am_to cd_t _ _ 35 21 _ _ _ _ _ _
    by_cases e : txt.getD p 0 = c
    · rw [if_pos e]
      refine x_icmp_f cd_i35_21 (fun z => z (by rw [e])) ?_
      refine x_ic cd_i35_24 (z := ii 1) rfl ?_
      refine x_n cd_i35_25 rfl rfl ?_
      show am_to cd_t _ _ 35 29 _ _ _ _ _ _
      exact x_end cd_i35_29 rfl rfl rfl
    · rw [if_neg e]
      refine x_icmp_t cd_i35_21 (fun z => e ((ii_eq (by omega) (by omega)).mp z)) ?_
      refine x_ic cd_i35_28 (z := ii 0) rfl ?_
      show am_to cd_t _ _ 35 29 _ _ _ _ _ _
      exact x_end cd_i35_29 rfl rfl rfl
  · refine x_icmp_t cd_i35_8 ((ii_le (by omega) (by omega)).mpr (by omega)) ?_
    rw [if_neg (by rw [getD_out (by omega)]; omega)]
    refine x_ic cd_i35_28 (z := ii 0) rfl ?_
    show am_to cd_t _ _ 35 29 _ _ _ _ _ _
    exact x_end cd_i35_29 rfl rfl rfl
theorem x_take {c : Nat} (hd : 0 < d) (h : X_buf σ b txt p) (hT : ∀ c ∈ txt, cok c) (hp : p ≤ txt.length) (hc : 0 < c) (hc2 : c < 127) : ∃ σ', am_to cd_t cs d 34 0 (am_ent 2 [.ref (b + 1), .int (ii c)]) [] σ top sl (.inl (some (.int (if txt.getD p 0 = c then 1 else 0))), σ', top, sl) ∧ X_buf σ' b txt (if txt.getD p 0 = c then p + 1 else p) ∧ ∀ q, q ≠ b + 1 → σ' q = σ q := by
  by_cases e : txt.getD p 0 = c
  · rw [if_pos e, if_pos e]
    refine ⟨_, ?_, h.at (p + 1), fun q hq => am_up_ne _ _ hq⟩
    refine x_n cd_i34_0 rfl rfl ?_
    refine x_n cd_i34_1 rfl rfl ?_
    show am_to cd_t _ _ 34 2 _ _ _ _ _ _
    refine x_callv (as' := [.int (ii c)]) cd_i34_2 h.1 hd rfl rfl rfl rfl rfl rfl (x_isAt h hT hp hc hc2) ?_
    rw [if_pos e]
    refine x_if_t cd_i34_5 (fun z => absurd (show (1 : Int32) = 0 from z) (by decide)) ?_
    have h1 := h.1
    refine x_n cd_i34_10 rfl rfl ?_
    refine x_n cd_i34_11 rfl rfl ?_
    refine x_getf cd_i34_12 (by assumption) rfl rfl ?_
    refine x_ic cd_i34_15 (z := ii 1) rfl ?_
    show am_to cd_t _ _ 34 16 _ _ _ _ _ _
    refine x_iadd cd_i34_16 (z := ii (p + 1)) (ii_add _ _) ?_
    refine x_putf cd_i34_17 (fs' := [.ref (b + 2), .int (ii txt.length), .int (ii (p + 1))]) h1 rfl rfl rfl ?_
    refine x_ic cd_i34_20 (z := ii 1) rfl ?_
    show am_to cd_t _ _ 34 21 _ _ _ _ _ _
    exact x_end cd_i34_21 rfl rfl rfl
  · rw [if_neg e, if_neg e]
    refine ⟨σ, ?_, h, fun q hq => rfl⟩
    refine x_n cd_i34_0 rfl rfl ?_
    refine x_n cd_i34_1 rfl rfl ?_
    show am_to cd_t _ _ 34 2 _ _ _ _ _ _
    refine x_callv (as' := [.int (ii c)]) cd_i34_2 h.1 hd rfl rfl rfl rfl rfl rfl (x_isAt h hT hp hc hc2) ?_
    rw [if_neg e]
    refine x_if_f cd_i34_5 (fun z => z rfl) ?_
    refine x_ic cd_i34_8 (z := ii 0) rfl ?_
    show am_to cd_t _ _ 34 9 _ _ _ _ _ _
    exact x_end cd_i34_9 rfl rfl rfl
theorem x_takeClass (hd : 0 < d) (h : X_buf σ b txt p) (hT : ∀ c ∈ txt, cok c) (hp : p ≤ txt.length) : ∃ σ', am_to cd_t cs d 33 0 (am_ent 1 [.ref (b + 1)]) [] σ top sl (.inl (some (.int (oi (tkC txt p).1))), σ', top, sl) ∧ X_buf σ' b txt (tkC txt p).2 ∧ ∀ q, q ≠ b + 1 → σ' q = σ q := by
  have h1 := h.1
  obtain ⟨-, h2, f, h3, h4⟩ := id h
  have hl := getD_cok hT p
  by_cases hlt : p < txt.length
  · have hg := getD_in hT hlt
    have pre : ∀ res, am_to cd_t cs d 33 23 (am_ent 1 [.ref (b + 1)]) [.int (ii (txt.getD p 0) - ii 65)] σ top sl res → am_to cd_t cs d 33 0 (am_ent 1 [.ref (b + 1)]) [] σ top sl res := by
      intro res hh
      refine x_n cd_i33_0 rfl rfl ?_
      refine x_getf cd_i33_1 (by assumption) rfl rfl ?_
      refine x_n cd_i33_4 rfl rfl ?_
      refine x_getf cd_i33_5 (by assumption) rfl rfl ?_
      show am_to cd_t _ _ 33 8 _ _ _ _ _ _
      refine x_icmp_f cd_i33_8 (fun z => by have := (ii_eq (by omega) (by omega)).mp (show ii p = ii txt.length from z); omega) ?_
      refine x_n cd_i33_11 rfl rfl ?_
      refine x_getf cd_i33_12 (by assumption) rfl rfl ?_
      refine x_n cd_i33_15 rfl rfl ?_
      refine x_getf cd_i33_16 (by assumption) rfl rfl ?_
      show am_to cd_t _ _ 33 19 _ _ _ _ _ _
      refine x_caload cd_i33_19 h3 (by omega) (by decide) ?_
      rw [h4 p hlt]
      refine x_bi cd_i33_20 (z := ii 65) (by decide) ?_
      refine x_isub cd_i33_22 rfl ?_
      show am_to cd_t _ _ 33 23 _ _ _ _ _ _
      exact hh
    have hv : (ii (txt.getD p 0) - ii 65).toInt = (txt.getD p 0 : Int) - 65 := by
      rw [Int32.toInt_sub, ii_toInt (by omega), ii_toInt (by decide), Int.bmod_eq_of_le (by omega) (by omega)]
      rfl
    by_cases hc : 65 ≤ txt.getD p 0 ∧ txt.getD p 0 ≤ 74
    · have ht : tkC txt p = (some (txt.getD p 0 - 65), p + 1) := if_pos hc
      rw [ht]
      refine ⟨_, pre _ ?_, h.at (p + 1), fun q hq => am_up_ne _ _ hq⟩
      refine x_calls (as := [.int (ii (txt.getD p 0) - ii 65)]) cd_i33_23 hd rfl rfl rfl rfl rfl rfl x_isClass ?_
      rw [if_pos (by rw [hv]; omega)]
      refine x_if_t cd_i33_26 (fun z => absurd (show (1 : Int32) = 0 from z) (by decide)) ?_
      refine x_n cd_i33_31 rfl rfl ?_
      refine x_getf cd_i33_32 (by assumption) rfl rfl ?_
      refine x_n cd_i33_35 rfl rfl ?_
      refine x_n cd_i33_36 rfl rfl ?_
      refine x_getf cd_i33_37 (by assumption) rfl rfl ?_
      refine x_n cd_i33_40 rfl rfl ?_
      refine x_ic cd_i33_41 (z := ii 1) rfl ?_
      show am_to cd_t _ _ 33 42 _ _ _ _ _ _
      refine x_iadd cd_i33_42 (z := ii (p + 1)) (ii_add _ _) ?_
      refine x_putf cd_i33_43 (fs' := [.ref (b + 2), .int (ii txt.length), .int (ii (p + 1))]) h1 rfl rfl rfl ?_
      refine x_caload cd_i33_46 ((am_up_ne _ _ (by omega)).trans h3) (by omega) (by decide) ?_
      rw [h4 p hlt]
      refine x_bi cd_i33_47 (z := ii 65) (by decide) ?_
      show am_to cd_t _ _ 33 49 _ _ _ _ _ _
      refine x_isub cd_i33_49 (z := ii (txt.getD p 0 - 65)) (ii_sub hc.1) ?_
      exact x_end cd_i33_50 rfl rfl rfl
    · have ht : tkC txt p = (none, p) := if_neg hc
      rw [ht]
      refine ⟨σ, pre _ ?_, h, fun q _ => rfl⟩
      refine x_calls (as := [.int (ii (txt.getD p 0) - ii 65)]) cd_i33_23 hd rfl rfl rfl rfl rfl rfl x_isClass ?_
      rw [if_neg (by rw [hv]; omega)]
      refine x_if_f cd_i33_26 (fun z => z rfl) ?_
      refine x_ic cd_i33_29 (z := (-1)) rfl ?_
      show am_to cd_t _ _ 33 30 _ _ _ _ _ _
      exact x_end cd_i33_30 rfl rfl rfl
  · have ht : tkC txt p = (none, p) := if_neg (by rw [getD_out (by omega)]; omega)
    rw [ht]
    refine ⟨σ, ?_, h, fun q _ => rfl⟩
    refine x_n cd_i33_0 rfl rfl ?_
    refine x_getf cd_i33_1 (by assumption) rfl rfl ?_
    refine x_n cd_i33_4 rfl rfl ?_
    refine x_getf cd_i33_5 (by assumption) rfl rfl ?_
    show am_to cd_t _ _ 33 8 _ _ _ _ _ _
    refine x_icmp_t cd_i33_8 (by show ii p = ii txt.length; rw [show p = txt.length by omega]) ?_
    refine x_ic cd_i33_29 (z := (-1)) rfl ?_
    show am_to cd_t _ _ 33 30 _ _ _ _ _ _
    exact x_end cd_i33_30 rfl rfl rfl
end BX
