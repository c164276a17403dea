/-! fits -/
def fitB (dec : Nat → Option Dec) (t w : Nat) : Bool := t == w || (t == 0 && w == 1) || (decide (3 ≤ t) && (chain dec 11 (t - 3)).any (fun x => 3 + x == w))
theorem fitB_iff {dec : Nat → Option Dec} {t w : Nat} : fitB dec t w = true ↔ fitM dec t w := by
  unfold fitB fitM
  simp only [Bool.or_eq_true, Bool.and_eq_true, beq_iff_eq, decide_eq_true_eq, List.any_eq_true]
  constructor
  · rintro ((h | h) | ⟨h1, x, h2, h3⟩)
    · exact Or.inl h
    · exact Or.inr (Or.inl h)
    · refine Or.inr (Or.inr ⟨h1, by omega, ?_⟩)
      rw [show w - 3 = x by omega]
      exact h2
  · rintro (h | h | ⟨h1, h2, h3⟩)
    · exact Or.inl (Or.inl h)
    · exact Or.inl (Or.inr h)
    · exact Or.inr ⟨h1, w - 3, h3, by omega⟩
/-- n steps lead to the end of what is above c -/
def deep (dec : Nat → Option Dec) : Nat → Nat → Prop
  | 0, _ => False
  | n + 1, c => c < 10 ∧ ∀ D p, dec c = some D → D.1 = some p → deep dec n p
/-- a class was declared after what is above it -/
def ranked (dec : Nat → Option Dec) (rk : Nat → Nat) : Prop := ∀ c D, dec c = some D → c < 10 ∧ rk c < 10 ∧ ∀ p, D.1 = some p → p < 10 ∧ (∃ D', dec p = some D') ∧ rk p < rk c
theorem deep_of {dec : Nat → Option Dec} {rk : Nat → Nat} (h : ranked dec rk) : ∀ (n c : Nat), c < 10 → (∀ D, dec c = some D → rk c < n) → 0 < n → deep dec n c
  | 0, c, hc, hr, h0 => absurd h0 (Nat.lt_irrefl 0)
  | n + 1, c, hc, hr, h0 => by
    refine ⟨hc, fun D p hD hp => ?_⟩
    obtain ⟨-, -, h3⟩ := h c D hD
    obtain ⟨h4, ⟨D', h5⟩, h6⟩ := h3 p hp
    have := hr D hD
    exact deep_of h n p h4 (fun D2 h2 => by omega) (by omega)
theorem deep_11 {dec : Nat → Option Dec} {rk : Nat → Nat} (h : ranked dec rk) {c : Nat} (hc : c < 10) : deep dec 11 c := deep_of h 11 c hc (fun D hD => by have := (h c D hD).2.1; omega) (by decide)
def abv (dec : Nat → Option Dec) (c : Nat) : Option Nat := (dec c).bind (fun D => D.1)
def oi (o : Option Nat) : Int32 := match o with
  | none => -1
  | some p => ii p
theorem chain_succ (dec : Nat → Option Dec) (n c : Nat) : chain dec (n + 1) c = c :: (match abv dec c with | none => [] | some p => chain dec n p) := by
  show (match dec c with | none => [c] | some D => match D.1 with | none => [c] | some p => c :: chain dec n p) = _
  unfold abv
  cases dec c with
  | none => rfl
  | some D =>
    show (match D.1 with | none => [c] | some p => c :: chain dec n p) = c :: (match D.1 with | none => [] | some p => chain dec n p)
    cases D.1 <;> rfl
def fitsM (dec : Nat → Option Dec) (x y : Int32) : Bool := decide (0 ≤ x.toInt ∧ x.toInt < 13) && (decide (0 ≤ y.toInt ∧ y.toInt < 13) && fitB dec x.toNatClampNeg y.toNatClampNeg)
section FT
variable {cs : Nat → Value} {d b m top sl : Nat} {σ : am_H} {dec : Nat → Option Dec}
theorem x_isType {c : Int32} : am_to cd_t cs d 15 0 (am_ent 1 [.int c]) [] σ top sl (.inl (some (.int (if 0 ≤ c.toInt ∧ c.toInt < 13 then 1 else 0))), σ, top, sl) := by
  refine x_n cd_i15_0 rfl rfl ?_
  show am_to cd_t _ _ 15 1 _ _ _ _ _ _
  refine x_if cd_i15_1 (fun z => ?_) (fun z => ?_)
  · have z1 := neg_iff.mp (show c < 0 from z)
    rw [if_neg (by omega)]
    refine x_ic cd_i15_14 (z := ii 0) rfl ?_
    show am_to cd_t _ _ 15 15 _ _ _ _ _ _
    exact x_end cd_i15_15 rfl rfl rfl
  · have z1 := mt neg_iff.mpr (show ¬ c < 0 from z)
    refine x_n cd_i15_4 rfl rfl ?_
    refine x_bi cd_i15_5 (z := ii 13) (by decide) ?_
    show am_to cd_t _ _ 15 7 _ _ _ _ _ _
    refine x_icmp cd_i15_7 (fun y => ?_) (fun y => ?_)
    · have y1 := (c_le (by decide)).mp (show ii 13 ≤ c from y)
      rw [if_neg (by omega)]
      refine x_ic cd_i15_14 (z := ii 0) rfl ?_
      show am_to cd_t _ _ 15 15 _ _ _ _ _ _
      exact x_end cd_i15_15 rfl rfl rfl
    · have y1 := mt (c_le (n := c) (k := 13) (by decide)).mpr y
      rw [if_pos (by omega)]
      refine x_ic cd_i15_10 (z := ii 1) rfl ?_
      refine x_n cd_i15_11 rfl rfl ?_
      show am_to cd_t _ _ 15 15 _ _ _ _ _ _
      exact x_end cd_i15_15 rfl rfl rfl
theorem x_isFitting {t w : Nat} {v v' : Value} (hC : σ (b + 3) = some (.inr (.inl (2, [v, .ref (b + 5), v'])))) (h : X_fit σ b dec) (ht : t < 13) (hw : w < 13) : am_to cd_t cs d 16 0 (am_ent 3 [.ref (b + 3), .int (ii t), .int (ii w)]) [] σ top sl (.inl (some (.int (b2i (fitB dec t w)))), σ, top, sl) := by
  obtain ⟨F, h1, h2⟩ := h
  refine x_n cd_i16_0 rfl rfl ?_
  refine x_getf cd_i16_1 (by assumption) rfl rfl ?_
  refine x_n cd_i16_4 rfl rfl ?_
  show am_to cd_t _ _ 16 5 _ _ _ _ _ _
  refine x_iaload cd_i16_5 h1 ht (by decide) ?_
  refine x_n cd_i16_6 rfl rfl ?_
  refine x_ishr cd_i16_7 rfl ?_
  refine x_ic cd_i16_8 (z := ii 1) rfl ?_
  refine x_iand cd_i16_9 rfl ?_
  refine x_ic cd_i16_10 (z := ii 1) rfl ?_
  show am_to cd_t _ _ 16 11 _ _ _ _ _ _
  have h3 := (h2 t w ht hw).trans fitB_iff.symm
  cases hB : fitB dec t w with
  | true =>
    refine x_icmp_f cd_i16_11 (fun z => z (h3.mpr hB)) ?_
    refine x_ic cd_i16_14 (z := ii 1) rfl ?_
    refine x_n cd_i16_15 rfl rfl ?_
    show am_to cd_t _ _ 16 19 _ _ _ _ _ _
    exact x_end cd_i16_19 rfl rfl rfl
  | false =>
    refine x_icmp_t cd_i16_11 (fun z => by rw [h3.mp z] at hB; cases hB) ?_
    refine x_ic cd_i16_18 (z := ii 0) rfl ?_
    show am_to cd_t _ _ 16 19 _ _ _ _ _ _
    exact x_end cd_i16_19 rfl rfl rfl
theorem x_fits {x y : Int32} {v v' v'' : Value} (hd : 0 < d) (hx : X_o σ b v) (hC : σ (b + 3) = some (.inr (.inl (2, [v', .ref (b + 5), v''])))) (h : X_fit σ b dec) : am_to cd_t cs d 14 0 (am_ent 3 [.ref b, .int x, .int y]) [] σ top sl (.inl (some (.int (b2i (fitsM dec x y)))), σ, top, sl) := by
  have no : fitsM dec x y = false → am_to cd_t cs d 14 30 (am_ent 3 [.ref b, .int x, .int y]) [] σ top sl (.inl (some (.int (b2i (fitsM dec x y)))), σ, top, sl) := by
    intro hf
    rw [hf]
    refine x_ic cd_i14_30 (z := ii 0) rfl ?_
    show am_to cd_t _ _ 14 31 _ _ _ _ _ _
    exact x_end cd_i14_31 rfl rfl rfl
  refine x_n cd_i14_0 rfl rfl ?_
  show am_to cd_t _ _ 14 1 _ _ _ _ _ _
  refine x_calls (as := [.int x]) cd_i14_1 hd rfl rfl rfl rfl rfl rfl x_isType ?_
  by_cases h1 : 0 ≤ x.toInt ∧ x.toInt < 13
  · rw [if_pos h1]
    refine x_if_f cd_i14_4 (fun z => absurd (show (1 : Int32) = 0 from z) (by decide)) ?_
    refine x_n cd_i14_7 rfl rfl ?_
    show am_to cd_t _ _ 14 8 _ _ _ _ _ _
    refine x_calls (as := [.int y]) cd_i14_8 hd rfl rfl rfl rfl rfl rfl x_isType ?_
    by_cases h2 : 0 ≤ y.toInt ∧ y.toInt < 13
    · rw [if_pos h2]
      refine x_if_f cd_i14_11 (fun z => absurd (show (1 : Int32) = 0 from z) (by decide)) ?_
      have e1 := Int32_nn (n := x) h1.1
      have e2 := Int32_nn (n := y) h2.1
      have hf := x_isFitting (cs := cs) (d := d - 1) (top := top) (sl := sl) hC h (clamp_lt h1.1 h1.2) (clamp_lt h2.1 h2.2)
      rw [← e1, ← e2] at hf
      refine x_n cd_i14_14 rfl rfl ?_
      refine x_getf cd_i14_15 (by assumption) rfl rfl ?_
      refine x_n cd_i14_18 rfl rfl ?_
      refine x_n cd_i14_19 rfl rfl ?_
      show am_to cd_t _ _ 14 20 _ _ _ _ _ _
      refine x_callv (as' := [.int x, .int y]) cd_i14_20 hC hd rfl rfl rfl rfl rfl rfl hf ?_
      have hM : fitsM dec x y = fitB dec x.toNatClampNeg y.toNatClampNeg := by
        unfold fitsM
        rw [decide_eq_true h1, decide_eq_true h2]
        rfl
      cases hB : fitB dec x.toNatClampNeg y.toNatClampNeg with
      | true =>
        rw [hM, hB]
        refine x_if_f cd_i14_23 (fun z => absurd (show (1 : Int32) = 0 from z) (by decide)) ?_
        refine x_ic cd_i14_26 (z := ii 1) rfl ?_
        refine x_n cd_i14_27 rfl rfl ?_
        show am_to cd_t _ _ 14 31 _ _ _ _ _ _
        exact x_end cd_i14_31 rfl rfl rfl
      | false => exact x_if_t cd_i14_23 rfl (no (hM.trans hB))
    · rw [if_neg h2]
      refine x_if_t cd_i14_11 rfl (no ?_)
      unfold fitsM
      rw [decide_eq_false h2, Bool.false_and, Bool.and_false]
  · rw [if_neg h1]
    refine x_if_t cd_i14_4 rfl (no ?_)
    unfold fitsM
    rw [decide_eq_false h1, Bool.false_and]
theorem m_aboveOf {i : Nat → Int32} {a : Nat → Nat → Int32} {c : Nat} (hM : mo σ m i a) (hC : M_cat a dec) (hc : c < 10) : am_to cd_t cs d 129 0 (am_ent 2 [.ref m, .int (ii c)]) [] σ top sl (.inl (some (.int (oi (abv dec c)))), σ, top, sl) := by
  obtain ⟨k1, k2⟩ := hC c hc
  refine x_n cd_i129_0 rfl rfl ?_
  show am_to cd_t _ _ 129 1 _ _ _ _ _ _
  refine x_getf cd_i129_1 hM.1 rfl rfl ?_
  refine x_n cd_i129_4 rfl rfl ?_
  show am_to cd_t _ _ 129 5 _ _ _ _ _ _
  refine x_baload cd_i129_5 (hM.2 2 (by decide) (by decide)) (show c < 10 from hc) (by decide) ?_
  unfold abv
  cases hD : dec c with
  | none =>
    rw [k1 hD]
    refine x_if_t cd_i129_6 rfl ?_
    refine x_ic cd_i129_18 (z := (-1)) rfl ?_
    show am_to cd_t _ _ 129 19 _ _ _ _ _ _
    exact x_end cd_i129_19 rfl rfl rfl
  | some D =>
    obtain ⟨q1, q2, q3, q4⟩ := k2 D hD
    rw [q1]
    refine x_if_f cd_i129_6 (fun z => absurd (show (1 : Int32) = 0 from z) (by decide)) ?_
    refine x_n cd_i129_9 rfl rfl ?_
    show am_to cd_t _ _ 129 10 _ _ _ _ _ _
    refine x_getf cd_i129_10 hM.1 rfl rfl ?_
    refine x_n cd_i129_13 rfl rfl ?_
    show am_to cd_t _ _ 129 14 _ _ _ _ _ _
    refine x_iaload cd_i129_14 (hM.2 3 (by decide) (by decide)) (show c < 10 from hc) (by decide) ?_
    rw [q2]
    refine x_n cd_i129_15 rfl rfl ?_
    show am_to cd_t _ _ 129 19 _ _ _ _ _ _
    exact x_end cd_i129_19 rfl rfl rfl
theorem m_fit_loop {i : Nat → Int32} {a : Nat → Nat → Int32} {t w : Nat} (hd : 0 < d) (hM : mo σ m i a) (hC : M_cat a dec) (hw : w < 13) : ∀ (n c : Nat) (s : Bool), deep dec n c →
    am_to cd_t cs d 128 34 [some (.ref m), some (.int (ii t)), some (.int (ii w)), some (.int (b2i s)), some (.int (ii c))] [] σ top sl (.inl (some (.int (b2i (s || (chain dec n c).any (fun x => 3 + x == w))))), σ, top, sl)
  | 0, c, s, h => absurd h id
  | n + 1, c, s, ⟨hc, h⟩ => by
    have last : ∀ s' : Bool, am_to cd_t cs d 128 34 [some (.ref m), some (.int (ii t)), some (.int (ii w)), some (.int (b2i s')), some (.int (-1))] [] σ top sl (.inl (some (.int (b2i s'))), σ, top, sl) := by
      intro s'
      refine x_n cd_i128_34 rfl rfl ?_
      refine x_ic cd_i128_36 (z := (-1)) rfl ?_
      show am_to cd_t _ _ 128 37 _ _ _ _ _ _
      refine x_icmp_t cd_i128_37 rfl ?_
      refine x_n cd_i128_69 rfl rfl ?_
      show am_to cd_t _ _ 128 70 _ _ _ _ _ _
      refine x_end cd_i128_70 rfl ?_ rfl
      cases s' <;> rfl
    have tail : ∀ s' : Bool, s' = (s || (3 + c == w)) → am_to cd_t cs d 128 57 [some (.ref m), some (.int (ii t)), some (.int (ii w)), some (.int (b2i s)), some (.int (ii c))] [.int (b2i s')] σ top sl (.inl (some (.int (b2i (s || (chain dec (n + 1) c).any (fun x => 3 + x == w))))), σ, top, sl) := by
      intro s' hs'
      refine x_n cd_i128_57 rfl rfl ?_
      try dsimp only [List.set]
      refine x_n cd_i128_58 rfl rfl ?_
      refine x_n cd_i128_59 rfl rfl ?_
      show am_to cd_t _ _ 128 61 _ _ _ _ _ _
      refine x_callv (as' := [.int (ii c)]) cd_i128_61 hM.1 hd rfl rfl rfl rfl rfl rfl (m_aboveOf hM hC hc) ?_
      refine x_n cd_i128_64 rfl rfl ?_
      try dsimp only [List.set]
      refine x_n cd_i128_66 rfl rfl ?_
      show am_to cd_t _ _ 128 34 _ _ _ _ _ _
      rw [chain_succ, List.any_cons, ← Bool.or_assoc, ← hs']
      cases ha : abv dec c with
      | none =>
        have := last s'
        rw [show (([] : List Nat).any fun x => 3 + x == w) = false from rfl, Bool.or_false]
        exact this
      | some p =>
        unfold abv at ha
        cases hD : dec c with
        | none => rw [hD] at ha; cases ha
        | some D =>
          rw [hD] at ha
          exact m_fit_loop hd hM hC hw n p s' (h D p hD ha)
    refine x_n cd_i128_34 rfl rfl ?_
    refine x_ic cd_i128_36 (z := (-1)) rfl ?_
    show am_to cd_t _ _ 128 37 _ _ _ _ _ _
    refine x_icmp_f cd_i128_37 (fun z => ii_ne1 (by omega) (show ii c = -1 from z)) ?_
    refine x_n cd_i128_40 rfl rfl ?_
    show am_to cd_t _ _ 128 41 _ _ _ _ _ _
    cases s with
    | true =>
      refine x_if_t cd_i128_41 (fun z => absurd (show (1 : Int32) = 0 from z) (by decide)) ?_
      refine x_ic cd_i128_52 (z := ii 1) rfl ?_
      refine x_n cd_i128_53 rfl rfl ?_
      show am_to cd_t _ _ 128 57 _ _ _ _ _ _
      exact tail true rfl
    | false =>
      refine x_if_f cd_i128_41 (fun z => z rfl) ?_
      refine x_ic cd_i128_44 (z := ii 3) rfl ?_
      refine x_n cd_i128_45 rfl rfl ?_
      show am_to cd_t _ _ 128 47 _ _ _ _ _ _
      refine x_iadd cd_i128_47 (z := ii (3 + c)) (ii_add _ _) ?_
      refine x_n cd_i128_48 rfl rfl ?_
      show am_to cd_t _ _ 128 49 _ _ _ _ _ _
      by_cases e : 3 + c = w
      · refine x_icmp_f cd_i128_49 (fun z => z (by rw [e])) ?_
        refine x_ic cd_i128_52 (z := ii 1) rfl ?_
        refine x_n cd_i128_53 rfl rfl ?_
        show am_to cd_t _ _ 128 57 _ _ _ _ _ _
        exact tail true (by rw [Bool.false_or]; exact (beq_iff_eq.mpr e).symm)
      · refine x_icmp_t cd_i128_49 (fun z => e ((ii_eq (by omega) (by omega)).mp z)) ?_
        refine x_ic cd_i128_56 (z := ii 0) rfl ?_
        show am_to cd_t _ _ 128 57 _ _ _ _ _ _
        exact tail false (by rw [Bool.false_or]; exact (beq_eq_false_iff_ne.mpr e).symm)
theorem m_fit {i : Nat → Int32} {a : Nat → Nat → Int32} {rk : Nat → Nat} {t w : Nat} (hd : 0 < d) (hM : mo σ m i a) (hC : M_cat a dec) (hr : ranked dec rk) (ht : t < 13) (hw : w < 13) :
    am_to cd_t cs d 128 0 (am_ent 5 [.ref m, .int (ii t), .int (ii w)]) [] σ top sl (.inl (some (.int (b2i (fitB dec t w)))), σ, top, sl) := by
  have mid : ∀ s : Bool, s = (t == w || (t == 0 && w == 1)) → am_to cd_t cs d 128 19 (am_ent 5 [.ref m, .int (ii t), .int (ii w)]) [.int (b2i s)] σ top sl (.inl (some (.int (b2i (fitB dec t w)))), σ, top, sl) := by
    intro s hs
    refine x_n cd_i128_19 rfl rfl ?_
    try dsimp only [List.set]
    refine x_n cd_i128_20 rfl rfl ?_
    refine x_ic cd_i128_21 (z := ii 3) rfl ?_
    show am_to cd_t _ _ 128 22 _ _ _ _ _ _
    unfold fitB
    rw [← hs]
    by_cases h3 : 3 ≤ t
    · refine x_icmp_t cd_i128_22 ((ii_le (by decide) (by omega)).mpr h3) ?_
      refine x_n cd_i128_29 rfl rfl ?_
      refine x_ic cd_i128_30 (z := ii 3) rfl ?_
      show am_to cd_t _ _ 128 31 _ _ _ _ _ _
      refine x_isub cd_i128_31 (z := ii (t - 3)) (ii_sub h3) ?_
      refine x_n cd_i128_32 rfl rfl ?_
      try dsimp only [List.set]
      show am_to cd_t _ _ 128 34 _ _ _ _ _ _
      rw [decide_eq_true h3, Bool.true_and]
      exact m_fit_loop hd hM hC hw 11 (t - 3) s (deep_11 hr (by omega))
    · refine x_icmp_f cd_i128_22 (fun z => h3 ((ii_le (by decide) (by omega)).mp z)) ?_
      refine x_ic cd_i128_25 (z := (-1)) rfl ?_
      refine x_n cd_i128_26 rfl rfl ?_
      refine x_n cd_i128_32 rfl rfl ?_
      try dsimp only [List.set]
      refine x_n cd_i128_34 rfl rfl ?_
      refine x_ic cd_i128_36 (z := (-1)) rfl ?_
      show am_to cd_t _ _ 128 37 _ _ _ _ _ _
      refine x_icmp_t cd_i128_37 rfl ?_
      rw [decide_eq_false h3, Bool.false_and, Bool.or_false]
      refine x_n cd_i128_69 rfl rfl ?_
      show am_to cd_t _ _ 128 70 _ _ _ _ _ _
      refine x_end cd_i128_70 rfl ?_ rfl
      cases s <;> rfl
  refine x_n cd_i128_0 rfl rfl ?_
  refine x_n cd_i128_1 rfl rfl ?_
  show am_to cd_t _ _ 128 2 _ _ _ _ _ _
  refine x_icmp cd_i128_2 (fun z => ?_) (fun z => ?_)
  · have e := (ii_eq (by omega) (by omega)).mp (show ii t = ii w from z)
    refine x_ic cd_i128_14 (z := ii 1) rfl ?_
    refine x_n cd_i128_15 rfl rfl ?_
    show am_to cd_t _ _ 128 19 _ _ _ _ _ _
    exact mid true (by rw [beq_iff_eq.mpr e]; rfl)
  · have e : ¬ t = w := fun h => z (by show ii t = ii w; rw [h])
    refine x_n cd_i128_5 rfl rfl ?_
    show am_to cd_t _ _ 128 6 _ _ _ _ _ _
    refine x_if cd_i128_6 (fun y => ?_) (fun y => ?_)
    · have e0 : ¬ t = 0 := fun h => y (by rw [h]; rfl)
      refine x_ic cd_i128_18 (z := ii 0) rfl ?_
      show am_to cd_t _ _ 128 19 _ _ _ _ _ _
      exact mid false (by rw [beq_eq_false_iff_ne.mpr e, beq_eq_false_iff_ne.mpr e0]; rfl)
    · have e0 : t = 0 := (ii_eq (b := 0) (by omega) (by decide)).mp (Decidable.not_not.mp (show ¬ ¬ ii t = ii 0 from y))
      refine x_n cd_i128_9 rfl rfl ?_
      refine x_ic cd_i128_10 (z := ii 1) rfl ?_
      show am_to cd_t _ _ 128 11 _ _ _ _ _ _
      refine x_icmp cd_i128_11 (fun x => ?_) (fun x => ?_)
      · have e1 : ¬ w = 1 := fun h => x (by rw [h])
        refine x_ic cd_i128_18 (z := ii 0) rfl ?_
        show am_to cd_t _ _ 128 19 _ _ _ _ _ _
        exact mid false (by rw [beq_eq_false_iff_ne.mpr e, beq_eq_false_iff_ne.mpr e1, Bool.and_false]; rfl)
      · have e1 : w = 1 := (ii_eq (b := 1) (by omega) (by decide)).mp (Decidable.not_not.mp (show ¬ ¬ ii w = ii 1 from x))
        refine x_ic cd_i128_14 (z := ii 1) rfl ?_
        refine x_n cd_i128_15 rfl rfl ?_
        show am_to cd_t _ _ 128 19 _ _ _ _ _ _
        exact mid true (by rw [e0, e1]; rfl)
theorem m_fits {i : Nat → Int32} {a : Nat → Nat → Int32} {rk : Nat → Nat} {x y : Int32} (hd : 1 < d) (hM : mo σ m i a) (hC : M_cat a dec) (hr : ranked dec rk) :
    am_to cd_t cs d 127 0 (am_ent 3 [.ref m, .int x, .int y]) [] σ top sl (.inl (some (.int (b2i (fitsM dec x y)))), am_up σ m (.inr (.inl (11, mo_f m (upd i 0 0)))), top, sl) := by
  have hM1 := hM.put (upd i 0 0)
  obtain ⟨s1, hs1⟩ : ∃ s, s = am_up σ m (.inr (.inl (11, mo_f m (upd i 0 0)))) := ⟨_, rfl⟩
  rw [← hs1] at hM1 ⊢
  have no : fitsM dec x y = false → am_to cd_t cs d 127 38 (am_ent 3 [.ref m, .int x, .int y]) [] s1 top sl (.inl (some (.int (b2i (fitsM dec x y)))), s1, top, sl) := by
    intro hf
    rw [hf]
    refine x_ic cd_i127_38 (z := ii 0) rfl ?_
    show am_to cd_t _ _ 127 39 _ _ _ _ _ _
    exact x_end cd_i127_39 rfl rfl rfl
  have hout : ∀ c : Int32, (c < ii 0 ∨ ii 12 < c) ↔ ¬ (0 ≤ c.toInt ∧ c.toInt < 13) := by
    intro c
    rw [c_lt (by decide), lt_c (by decide)]
    omega
  refine x_n cd_i127_0 rfl rfl ?_
  refine x_ic cd_i127_1 (z := ii 0) rfl ?_
  show am_to cd_t _ _ 127 2 _ _ _ _ _ _
  refine x_putf cd_i127_2 (fs' := mo_f m (upd i 0 0)) hM.1 rfl rfl rfl ?_
  rw [← hs1]
  refine x_n cd_i127_5 rfl rfl ?_
  refine x_ic cd_i127_6 (z := ii 0) rfl ?_
  refine x_bi cd_i127_7 (z := ii 12) (by decide) ?_
  show am_to cd_t _ _ 127 9 _ _ _ _ _ _
  refine x_calls (as := [.int x, .int (ii 0), .int (ii 12)]) cd_i127_9 (by omega) rfl rfl rfl rfl rfl rfl m_outside ?_
  by_cases h1 : 0 ≤ x.toInt ∧ x.toInt < 13
  · rw [if_neg (fun z => (hout x).mp z h1)]
    refine x_if_f cd_i127_12 (fun z => z rfl) ?_
    refine x_n cd_i127_15 rfl rfl ?_
    refine x_ic cd_i127_16 (z := ii 0) rfl ?_
    refine x_bi cd_i127_17 (z := ii 12) (by decide) ?_
    show am_to cd_t _ _ 127 19 _ _ _ _ _ _
    refine x_calls (as := [.int y, .int (ii 0), .int (ii 12)]) cd_i127_19 (by omega) rfl rfl rfl rfl rfl rfl m_outside ?_
    by_cases h2 : 0 ≤ y.toInt ∧ y.toInt < 13
    · rw [if_neg (fun z => (hout y).mp z h2)]
      refine x_if_f cd_i127_22 (fun z => z rfl) ?_
      have e1 := Int32_nn (n := x) h1.1
      have e2 := Int32_nn (n := y) h2.1
      have hf := m_fit (cs := cs) (d := d - 1) (top := top) (sl := sl) (by omega) hM1 hC hr (clamp_lt h1.1 h1.2) (clamp_lt h2.1 h2.2)
      rw [← e1, ← e2] at hf
      refine x_n cd_i127_25 rfl rfl ?_
      refine x_n cd_i127_26 rfl rfl ?_
      refine x_n cd_i127_27 rfl rfl ?_
      show am_to cd_t _ _ 127 28 _ _ _ _ _ _
      refine x_callv (as' := [.int x, .int y]) cd_i127_28 hM1.1 (by omega) rfl rfl rfl rfl rfl rfl hf ?_
      have hF : fitsM dec x y = fitB dec x.toNatClampNeg y.toNatClampNeg := by
        unfold fitsM
        rw [decide_eq_true h1, decide_eq_true h2]
        rfl
      cases hB : fitB dec x.toNatClampNeg y.toNatClampNeg with
      | true =>
        rw [hF, hB]
        refine x_if_f cd_i127_31 (fun z => absurd (show (1 : Int32) = 0 from z) (by decide)) ?_
        refine x_ic cd_i127_34 (z := ii 1) rfl ?_
        refine x_n cd_i127_35 rfl rfl ?_
        show am_to cd_t _ _ 127 39 _ _ _ _ _ _
        exact x_end cd_i127_39 rfl rfl rfl
      | false => exact x_if_t cd_i127_31 rfl (no (hF.trans hB))
    · rw [if_pos ((hout y).mpr h2)]
      refine x_if_t cd_i127_22 (fun z => absurd (show (1 : Int32) = 0 from z) (by decide)) (no ?_)
      unfold fitsM
      rw [decide_eq_false h2, Bool.false_and, Bool.and_false]
  · rw [if_pos ((hout x).mpr h1)]
    refine x_if_t cd_i127_12 (fun z => absurd (show (1 : Int32) = 0 from z) (by decide)) (no ?_)
    unfold fitsM
    rw [decide_eq_false h1, Bool.false_and]
end FT
