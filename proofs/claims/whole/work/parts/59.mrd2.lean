/-! the reference's readers -/
section MS
variable {cs : Nat → Value} {d m top sl : Nat} {σ : am_H} {i : Nat → Int32} {a : Nat → Nat → Int32} {txt : List Nat} {p : Nat} {g : Bool}
theorem m_must {s : Bool} (hM : mo σ m i a) (hG : i 4 = b2i g) : ∃ σ', am_to cd_t cs d 107 0 (am_ent 2 [.ref m, .int (b2i s)]) [] σ top sl (.inl none, σ', top, sl) ∧ mo σ' m (upd i 4 (b2i (g && s))) a ∧ ∀ q, q < m ∨ m + 25 ≤ q → σ' q = σ q := by
  refine ⟨_, ?_, hM.put (upd i 4 (b2i (g && s))), fun q hq => am_up_ne _ _ (by omega)⟩
  have fin : ∀ z : Int32, z = b2i (g && s) → am_to cd_t cs d 107 17 (am_ent 2 [.ref m, .int (b2i s)]) [.int z, .ref m] σ top sl (.inl none, am_up σ m (.inr (.inl (11, mo_f m (upd i 4 (b2i (g && s)))))), top, sl) := by
    intro z hz
    rw [hz]
    refine x_putf cd_i107_17 (fs' := mo_f m (upd i 4 (b2i (g && s)))) hM.1 rfl (by cases g <;> cases s <;> rfl) rfl ?_
    exact x_end cd_i107_20 rfl rfl rfl
  refine x_n cd_i107_0 rfl rfl ?_
  refine x_n cd_i107_1 rfl rfl ?_
  show am_to cd_t _ _ 107 2 _ _ _ _ _ _
  refine x_getf cd_i107_2 hM.1 rfl rfl ?_
  rw [hG]
  cases g with
  | false =>
    refine x_if_t cd_i107_5 rfl ?_
    refine x_ic cd_i107_16 (z := ii 0) rfl ?_
    show am_to cd_t _ _ 107 17 _ _ _ _ _ _
    exact fin _ rfl
  | true =>
    refine x_if_f cd_i107_5 (fun z => absurd (show (1 : Int32) = 0 from z) (by decide)) ?_
    refine x_n cd_i107_8 rfl rfl ?_
    show am_to cd_t _ _ 107 9 _ _ _ _ _ _
    cases s with
    | false =>
      refine x_if_t cd_i107_9 rfl ?_
      refine x_ic cd_i107_16 (z := ii 0) rfl ?_
      show am_to cd_t _ _ 107 17 _ _ _ _ _ _
      exact fin _ rfl
    | true =>
      refine x_if_f cd_i107_9 (fun z => absurd (show (1 : Int32) = 0 from z) (by decide)) ?_
      refine x_ic cd_i107_12 (z := ii 1) rfl ?_
      refine x_n cd_i107_13 rfl rfl ?_
      show am_to cd_t _ _ 107 17 _ _ _ _ _ _
      exact fin _ rfl
theorem m_pass {c : Nat} (hd : 0 < d) (hM : mo σ m i a) (hB : M_buf i a txt) (hP : M_at i p) (hT : ∀ c ∈ txt, cok c) (hp : p < 1000) (hc : c < 127) : ∃ σ', am_to cd_t cs d 108 0 (am_ent 3 [.ref m, .int (ii c)]) [] σ top sl (.inl (some (.int (b2i (txt.getD p 0 == c)))), σ', top, sl) ∧ mo σ' m (upd i 3 (ii (if txt.getD p 0 = c then p + 1 else p))) a ∧ ∀ q, q < m ∨ m + 25 ≤ q → σ' q = σ q := by
  have hl := getD_cok hT p
  have look := m_look (cs := cs) (d := d - 1) (top := top) (sl := sl) (k := 0) hM hB hP hT hp (by decide)
  rw [Nat.add_zero] at look
  refine ⟨_, ?_, hM.put _, fun q hq => am_up_ne _ _ (by omega)⟩
  refine x_n cd_i108_0 rfl rfl ?_
  refine x_ic cd_i108_1 (z := ii 0) rfl ?_
  show am_to cd_t _ _ 108 2 _ _ _ _ _ _
  refine x_callv (as' := [.int (ii 0)]) cd_i108_2 hM.1 hd rfl rfl rfl rfl rfl rfl look ?_
  refine x_n cd_i108_5 rfl rfl ?_
  show am_to cd_t _ _ 108 6 _ _ _ _ _ _
  by_cases e : txt.getD p 0 = c
  · rw [if_pos e, show (txt.getD p 0 == c) = true from beq_iff_eq.mpr e]
    refine x_icmp_f cd_i108_6 (fun z => z (by rw [e])) ?_
    refine x_ic cd_i108_9 (z := ii 1) rfl ?_
    refine x_n cd_i108_10 rfl rfl ?_
    refine x_n cd_i108_14 rfl rfl ?_
    try dsimp only [List.set]
    refine x_n cd_i108_15 rfl rfl ?_
    refine x_n cd_i108_16 rfl rfl ?_
    show am_to cd_t _ _ 108 17 _ _ _ _ _ _
    refine x_if_f cd_i108_17 (fun z => absurd (show (1 : Int32) = 0 from z) (by decide)) ?_
    refine x_n cd_i108_20 rfl rfl ?_
    show am_to cd_t _ _ 108 21 _ _ _ _ _ _
    refine x_getf cd_i108_21 hM.1 rfl rfl ?_
    rw [show i 3 = ii p from hP]
    refine x_ic cd_i108_24 (z := ii 1) rfl ?_
    show am_to cd_t _ _ 108 25 _ _ _ _ _ _
    refine x_iadd cd_i108_25 (z := ii (p + 1)) (ii_add _ _) ?_
    refine x_n cd_i108_26 rfl rfl ?_
    show am_to cd_t _ _ 108 33 _ _ _ _ _ _
    refine x_putf cd_i108_33 (fs' := mo_f m (upd i 3 (ii (p + 1)))) hM.1 rfl rfl rfl ?_
    refine x_n cd_i108_36 rfl rfl ?_
    show am_to cd_t _ _ 108 37 _ _ _ _ _ _
    exact x_end cd_i108_37 rfl rfl rfl
  · rw [if_neg e, show (txt.getD p 0 == c) = false from beq_eq_false_iff_ne.mpr e]
    refine x_icmp_t cd_i108_6 (fun z => e ((ii_eq (by omega) (by omega)).mp z)) ?_
    refine x_ic cd_i108_13 (z := ii 0) rfl ?_
    refine x_n cd_i108_14 rfl rfl ?_
    try dsimp only [List.set]
    refine x_n cd_i108_15 rfl rfl ?_
    refine x_n cd_i108_16 rfl rfl ?_
    show am_to cd_t _ _ 108 17 _ _ _ _ _ _
    refine x_if_t cd_i108_17 rfl ?_
    refine x_n cd_i108_29 rfl rfl ?_
    show am_to cd_t _ _ 108 30 _ _ _ _ _ _
    refine x_getf cd_i108_30 hM.1 rfl rfl ?_
    rw [show i 3 = ii p from hP]
    refine x_putf cd_i108_33 (fs' := mo_f m (upd i 3 (ii p))) hM.1 rfl rfl rfl ?_
    refine x_n cd_i108_36 rfl rfl ?_
    show am_to cd_t _ _ 108 37 _ _ _ _ _ _
    exact x_end cd_i108_37 rfl rfl rfl
theorem m_expect {c : Nat} (hd : 1 < d) (hM : mo σ m i a) (hB : M_buf i a txt) (hP : M_at i p) (hG : i 4 = b2i g) (hT : ∀ c ∈ txt, cok c) (hp : p < 1000) (hc : c < 127) : ∃ σ', am_to cd_t cs d 109 0 (am_ent 2 [.ref m, .int (ii c)]) [] σ top sl (.inl none, σ', top, sl) ∧ mo σ' m (upd (upd i 3 (ii (if txt.getD p 0 = c then p + 1 else p))) 4 (b2i (g && (txt.getD p 0 == c)))) a ∧ ∀ q, q < m ∨ m + 25 ≤ q → σ' q = σ q := by
  obtain ⟨s1, a1, a2, a3⟩ := m_pass (cs := cs) (d := d - 1) (top := top) (sl := sl) (by omega) hM hB hP hT hp hc
  obtain ⟨s2, b1, b2, b3⟩ := m_must (cs := cs) (d := d - 1) (top := top) (sl := sl) (s := txt.getD p 0 == c) (g := g) a2 hG
  refine ⟨s2, ?_, b2, fun q hq => (b3 q hq).trans (a3 q hq)⟩
  refine x_n cd_i109_0 rfl rfl ?_
  refine x_n cd_i109_1 rfl rfl ?_
  refine x_n cd_i109_2 rfl rfl ?_
  show am_to cd_t _ _ 109 3 _ _ _ _ _ _
  refine x_callv (as' := [.int (ii c)]) cd_i109_3 hM.1 (by omega) rfl rfl rfl rfl rfl rfl a1 ?_
  refine x_callv (as' := [.int (b2i (txt.getD p 0 == c))]) (r := none) cd_i109_6 a2.1 (by omega) rfl rfl rfl rfl rfl rfl b1 ?_
  exact x_end cd_i109_9 rfl rfl rfl
theorem m_small {c : Nat} (hc : c < 1000) : am_to cd_t cs d 115 0 (am_ent 1 [.int (ii c)]) [] σ top sl (.inl (some (.int (b2i (low c)))), σ, top, sl) := by
  refine x_n cd_i115_0 rfl rfl ?_
  refine x_bi cd_i115_1 (z := ii 97) (by decide) ?_
  show am_to cd_t _ _ 115 3 _ _ _ _ _ _
  refine x_icmp cd_i115_3 (fun z => ?_) (fun z => ?_)
  · have z1 := (ii_lt (by omega) (by decide)).mp (show ii c < ii 97 from z)
    rw [show low c = false by unfold low; rw [decide_eq_false (by omega)]; rfl]
    refine x_ic cd_i115_16 (z := ii 0) rfl ?_
    show am_to cd_t _ _ 115 17 _ _ _ _ _ _
    exact x_end cd_i115_17 rfl rfl rfl
  · have z1 := mt (ii_lt (by omega) (by decide)).mpr (show ¬ ii c < ii 97 from z)
    refine x_n cd_i115_6 rfl rfl ?_
    refine x_bi cd_i115_7 (z := ii 122) (by decide) ?_
    show am_to cd_t _ _ 115 9 _ _ _ _ _ _
    refine x_icmp cd_i115_9 (fun y => ?_) (fun y => ?_)
    · have y1 := (ii_lt (by decide) (by omega)).mp (show ii 122 < ii c from y)
      rw [show low c = false by unfold low; rw [decide_eq_false (show ¬ c ≤ 122 by omega), Bool.and_false]]
      refine x_ic cd_i115_16 (z := ii 0) rfl ?_
      show am_to cd_t _ _ 115 17 _ _ _ _ _ _
      exact x_end cd_i115_17 rfl rfl rfl
    · have y1 := mt (ii_lt (by decide) (by omega)).mpr (show ¬ ii 122 < ii c from y)
      rw [show low c = true by unfold low; rw [decide_eq_true (show 97 ≤ c by omega), decide_eq_true (show c ≤ 122 by omega)]; rfl]
      refine x_ic cd_i115_12 (z := ii 1) rfl ?_
      refine x_n cd_i115_13 rfl rfl ?_
      show am_to cd_t _ _ 115 17 _ _ _ _ _ _
      exact x_end cd_i115_17 rfl rfl rfl
def big (c : Nat) : Bool := decide (65 ≤ c) && decide (c ≤ 74)
theorem m_large {c : Nat} (hc : c < 1000) : am_to cd_t cs d 106 0 (am_ent 1 [.int (ii c)]) [] σ top sl (.inl (some (.int (b2i (big c)))), σ, top, sl) := by
  refine x_n cd_i106_0 rfl rfl ?_
  refine x_bi cd_i106_1 (z := ii 65) (by decide) ?_
  show am_to cd_t _ _ 106 3 _ _ _ _ _ _
  refine x_icmp cd_i106_3 (fun z => ?_) (fun z => ?_)
  · have z1 := (ii_lt (by omega) (by decide)).mp (show ii c < ii 65 from z)
    rw [show big c = false by unfold big; rw [decide_eq_false (by omega)]; rfl]
    refine x_ic cd_i106_16 (z := ii 0) rfl ?_
    show am_to cd_t _ _ 106 17 _ _ _ _ _ _
    exact x_end cd_i106_17 rfl rfl rfl
  · have z1 := mt (ii_lt (by omega) (by decide)).mpr (show ¬ ii c < ii 65 from z)
    refine x_n cd_i106_6 rfl rfl ?_
    refine x_bi cd_i106_7 (z := ii 74) (by decide) ?_
    show am_to cd_t _ _ 106 9 _ _ _ _ _ _
    refine x_icmp cd_i106_9 (fun y => ?_) (fun y => ?_)
    · have y1 := (ii_lt (by decide) (by omega)).mp (show ii 74 < ii c from y)
      rw [show big c = false by unfold big; rw [decide_eq_false (show ¬ c ≤ 74 by omega), Bool.and_false]]
      refine x_ic cd_i106_16 (z := ii 0) rfl ?_
      show am_to cd_t _ _ 106 17 _ _ _ _ _ _
      exact x_end cd_i106_17 rfl rfl rfl
    · have y1 := mt (ii_lt (by decide) (by omega)).mpr (show ¬ ii 74 < ii c from y)
      rw [show big c = true by unfold big; rw [decide_eq_true (show 65 ≤ c by omega), decide_eq_true (show c ≤ 74 by omega)]; rfl]
      refine x_ic cd_i106_12 (z := ii 1) rfl ?_
      refine x_n cd_i106_13 rfl rfl ?_
      show am_to cd_t _ _ 106 17 _ _ _ _ _ _
      exact x_end cd_i106_17 rfl rfl rfl
end MS
