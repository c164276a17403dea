/-! members that an expression names, in the reference -/
def rowO (o : Option (Nat × Nat)) : Int32 := match o with
  | none => -1
  | some q => ii (6 * q.1 + q.2)
def M_und (a : Nat → Nat → Int32) (dec : Nat → Option Dec) : Prop := ∀ c, c < 10 → dec c = none → a 4 c = 0
section RM2
variable {cs : Nat → Value} {d m top sl : Nat} {σ : am_H} {i : Nat → Int32} {a : Nat → Nat → Int32} {dec : Nat → Option Dec} {pl : Int32} {rk : Nat → Nat}
theorem nm_maker {M : Mem} (hm : memOk M) : isNm 2 [] M = (M.1 == 2) := by
  unfold isNm
  by_cases e : M.1 = 2
  · rw [(hm.2.2.1 e).1, beq_self_eq_true, Bool.and_true]
  · rw [beq_eq_false_iff_ne.mpr e, Bool.false_and]
theorem m_makerOf {c : Nat} (hd : 0 < d) (hM : mo σ m i a) (hC : M_cat a dec) (hU : M_und a dec) (hO : catOk dec) (hpl : i 18 = pl) (hc : c < 10) :
    am_to cd_t cs d 148 0 (am_ent 4 [.ref m, .int (ii c)]) [] σ top sl (.inl (some (.int (rowO (ownL dec pl c 2 [])))), σ, top, sl) := by
  have hlen : a 4 c = ii (memsOf dec c).length ∧ (memsOf dec c).length ≤ 6 ∧ (∀ k, k < (memsOf dec c).length → M_mem a (6 * c + k) ((memsOf dec c).getD k default) ∧ memOk ((memsOf dec c).getD k default)) ∧ distM (memsOf dec c) := by
    unfold memsOf
    cases hD : dec c with
    | none => exact ⟨hU c hc hD, Nat.zero_le _, fun k hk => absurd hk (Nat.not_lt_zero k), fun i j hi => absurd hi (Nat.not_lt_zero i)⟩
    | some D =>
      obtain ⟨q1, q2, q3, q4, q5⟩ := (hC c hc).2 D hD
      exact ⟨q3, q4, fun k hk => ⟨q5 k hk, (hO c D hD).2.1 _ (getD_mem hk)⟩, (hO c D hD).2.2⟩
  obtain ⟨h4, hl6, hrow, hdist⟩ := hlen
  have loop : ∀ (n j : Nat) (f : Option Nat), j + n = (memsOf dec c).length → (match f with | none => ∀ q, q < j → (isNm 2 [] ((memsOf dec c).getD q default) && usB pl c ((memsOf dec c).getD q default)) = false | some q => q < j ∧ (isNm 2 [] ((memsOf dec c).getD q default) && usB pl c ((memsOf dec c).getD q default)) = true) →
      am_to cd_t cs d 148 7 [some (.ref m), some (.int (ii c)), some (.int (rowO (f.map fun j => (c, j)))), some (.int (ii (6 * c + j)))] [] σ top sl (.inl (some (.int (rowO (ownL dec pl c 2 [])))), σ, top, sl) := by
    intro n
    induction n with
    | zero =>
      intro j f hj hf
      have e : ownL dec pl c 2 [] = f.map (fun j => (c, j)) := by
        unfold ownL
        cases f with
        | none => rw [find_none.mpr (fun q hq => hf q (by omega))]
        | some q =>
          have h2 := hf.2
          rw [Bool.and_eq_true] at h2
          rw [find_eq (Q := usB pl c) hdist (by omega) h2.1, if_pos h2.2]
      rw [e]
      refine x_n cd_i148_7 rfl rfl ?_
      refine x_bi cd_i148_8 (z := ii 6) (by decide) ?_
      refine x_n cd_i148_10 rfl rfl ?_
      refine x_imul cd_i148_11 (ii_mul _ _) ?_
      refine x_n cd_i148_12 rfl rfl ?_
      refine x_getf cd_i148_13 hM.1 rfl rfl ?_
      refine x_n cd_i148_16 rfl rfl ?_
      show am_to cd_t _ _ 148 17 _ _ _ _ _ _
      refine x_iald cd_i148_17 (hM.2 4 (by decide) (by decide)) (show _ < 10 by omega) (by decide) (h4) ?_
      refine x_iadd cd_i148_18 (ii_add _ _) ?_
      show am_to cd_t _ _ 148 19 _ _ _ _ _ _
      refine x_icmp_t cd_i148_19 ((ii_le (by omega) (by omega)).mpr (by omega)) ?_
      refine x_n cd_i148_52 rfl rfl ?_
      show am_to cd_t _ _ 148 53 _ _ _ _ _ _
      exact x_end cd_i148_53 rfl rfl rfl
    | succ n ih =>
      intro j f hj hf
      have hjl : j < (memsOf dec c).length := by omega
      obtain ⟨hm1, hm2⟩ := hrow j hjl
      have hus := m_usable (cs := cs) (d := d - 1) (top := top) (sl := sl) hM hpl hc (by omega) hm1
      obtain ⟨h1, h2, h3, h4', h5, h6, h7⟩ := id hm1
      have mk := hm2.1
      have enm := nm_maker hm2
      have tail : ∀ f' : Option Nat, (match f' with | none => ∀ q, q < j + 1 → (isNm 2 [] ((memsOf dec c).getD q default) && usB pl c ((memsOf dec c).getD q default)) = false | some q => q < j + 1 ∧ (isNm 2 [] ((memsOf dec c).getD q default) && usB pl c ((memsOf dec c).getD q default)) = true) → am_to cd_t cs d 148 45 [some (.ref m), some (.int (ii c)), some (.int (rowO (f.map fun j => (c, j)))), some (.int (ii (6 * c + j)))] [.int (rowO (f'.map fun j => (c, j)))] σ top sl (.inl (some (.int (rowO (ownL dec pl c 2 [])))), σ, top, sl) := by
        intro f' hf'
        refine x_n cd_i148_45 rfl rfl ?_
        try dsimp only [List.set]
        show am_to cd_t _ _ 148 46 _ _ _ _ _ _
        refine x_iinc cd_i148_46 rfl (z := ii (6 * c + (j + 1))) (ii_add _ 1) rfl ?_
        refine x_n cd_i148_49 rfl rfl ?_
        show am_to cd_t _ _ 148 7 _ _ _ _ _ _
        exact ih (j + 1) f' (by omega) hf'
      have no : (isNm 2 [] ((memsOf dec c).getD j default) && usB pl c ((memsOf dec c).getD j default)) = false → am_to cd_t cs d 148 44 [some (.ref m), some (.int (ii c)), some (.int (rowO (f.map fun j => (c, j)))), some (.int (ii (6 * c + j)))] [] σ top sl (.inl (some (.int (rowO (ownL dec pl c 2 [])))), σ, top, sl) := by
        intro z
        refine x_n cd_i148_44 rfl rfl ?_
        show am_to cd_t _ _ 148 45 _ _ _ _ _ _
        refine tail f ?_
        cases f with
        | none =>
          intro q hq
          by_cases e : q = j
          · rw [e]; exact z
          · exact hf q (by omega)
        | some q => exact ⟨by have := hf.1; omega, hf.2⟩
      refine x_n cd_i148_7 rfl rfl ?_
      refine x_bi cd_i148_8 (z := ii 6) (by decide) ?_
      refine x_n cd_i148_10 rfl rfl ?_
      refine x_imul cd_i148_11 (ii_mul _ _) ?_
      refine x_n cd_i148_12 rfl rfl ?_
      refine x_getf cd_i148_13 hM.1 rfl rfl ?_
      refine x_n cd_i148_16 rfl rfl ?_
      show am_to cd_t _ _ 148 17 _ _ _ _ _ _
      refine x_iald cd_i148_17 (hM.2 4 (by decide) (by decide)) (show _ < 10 by omega) (by decide) (h4) ?_
      refine x_iadd cd_i148_18 (ii_add _ _) ?_
      show am_to cd_t _ _ 148 19 _ _ _ _ _ _
      refine x_icmp_f cd_i148_19 (fun z => by have := (ii_le (by omega) (by omega)).mp (show ii (6 * c + (memsOf dec c).length) ≤ ii (6 * c + j) from z); omega) ?_
      refine x_n cd_i148_22 rfl rfl ?_
      refine x_getf cd_i148_23 hM.1 rfl rfl ?_
      refine x_n cd_i148_26 rfl rfl ?_
      show am_to cd_t _ _ 148 27 _ _ _ _ _ _
      refine x_iald cd_i148_27 (hM.2 5 (by decide) (by decide)) (show _ < 66 by omega) (by decide) (h1) ?_
      refine x_ic cd_i148_28 (z := ii 2) rfl ?_
      show am_to cd_t _ _ 148 29 _ _ _ _ _ _
      by_cases e2 : ((memsOf dec c).getD j default).1 = 2
      · refine x_icmp_f cd_i148_29 (fun z => z (by rw [e2])) ?_
        rw [beq_iff_eq.mpr e2] at enm
        refine x_n cd_i148_32 rfl rfl ?_
        refine x_n cd_i148_33 rfl rfl ?_
        show am_to cd_t _ _ 148 34 _ _ _ _ _ _
        refine x_callv (as' := [.int (ii (6 * c + j))]) cd_i148_34 hM.1 (by omega) rfl rfl rfl rfl rfl rfl (hus) ?_
        cases hu : usB pl c ((memsOf dec c).getD j default) with
        | true =>
          refine x_if_f cd_i148_37 (fun z => absurd (show (1 : Int32) = 0 from z) (by decide)) ?_
          refine x_n cd_i148_40 rfl rfl ?_
          refine x_n cd_i148_41 rfl rfl ?_
          show am_to cd_t _ _ 148 45 _ _ _ _ _ _
          exact tail (some j) ⟨by omega, by rw [enm, hu]; rfl⟩
        | false => exact x_if_t cd_i148_37 rfl (no (by rw [hu, Bool.and_false]))
      · refine x_icmp_t cd_i148_29 (fun z => e2 ((ii_eq (by omega) (by decide)).mp z)) (no ?_)
        rw [enm, beq_eq_false_iff_ne.mpr e2, Bool.false_and]
  refine x_ic cd_i148_0 (z := (-1)) rfl ?_
  refine x_n cd_i148_1 rfl rfl ?_
  try dsimp only [List.set]
  refine x_bi cd_i148_2 (z := ii 6) (by decide) ?_
  refine x_n cd_i148_4 rfl rfl ?_
  refine x_imul cd_i148_5 (ii_mul _ _) ?_
  refine x_n cd_i148_6 rfl rfl ?_
  try dsimp only [List.set]
  show am_to cd_t _ _ 148 7 _ _ _ _ _ _
  exact loop _ 0 none (Nat.zero_add _) (fun q hq => absurd hq (Nat.not_lt_zero q))
/-- which members are meant: of a value's type, or of a class itself -/
def mP (dec : Nat → Option Dec) (pl : Int32) (k : Nat) (w : List Nat) (t : Nat ⊕ Nat) (x j : Nat) : Bool := decide (j < (memsOf dec x).length) && isNm k w ((memsOf dec x).getD j default) && (match t with
  | .inl t => decide (3 ≤ t) && snB dec pl (t - 3) x j
  | .inr c => (x == c) && ((memsOf dec x).getD j default).2.2.1 && usB pl x ((memsOf dec x).getD j default))
def tI (t : Nat ⊕ Nat) : Int32 := match t with
  | .inl t => ii t
  | .inr c => -1 - ii c
theorem tI_neg {c : Nat} (hc : c < 10) : (-1 - ii c : Int32) < 0 ∧ (-1 : Int32) - (-1 - ii c) = ii c := by
  have h : ∀ c, c < 10 → (-1 - ii c : Int32) < 0 ∧ (-1 : Int32) - (-1 - ii c) = ii c := by decide
  exact h c hc
theorem m_member_one {k x j : Nat} {w : List Nat} {t : Nat ⊕ Nat} {z : Int32} {v6 : Option Value} (hd : 3 < d) (hM : mo σ m i a) (hC : M_cat a dec) (hO : catOk dec) (hr : ranked dec rk) (hpl : i 18 = pl) (hk : k < 2) (hw : nameOk w) (hx : x < 10) (hj : j < 6) (ht : match t with | .inl t => t < 13 | .inr c => c < 10) :
    ∃ v6' : Option Value, ∀ res, am_to cd_t cs d 150 6 [some (.ref m), some (.int (tI t)), some (.int (ii (n27 w))), some (.int (ii k)), some (.int (if mP dec pl k w t x j = true then ii (6 * x + j) else z)), some (.int (ii (6 * x + (j + 1)))), v6'] [] σ top sl res → am_to cd_t cs d 150 6 [some (.ref m), some (.int (tI t)), some (.int (ii (n27 w))), some (.int (ii k)), some (.int z), some (.int (ii (6 * x + j))), v6] [] σ top sl res := by
  have skip : ∀ v6' res, mP dec pl k w t x j = false → am_to cd_t cs d 150 6 [some (.ref m), some (.int (tI t)), some (.int (ii (n27 w))), some (.int (ii k)), some (.int (if mP dec pl k w t x j = true then ii (6 * x + j) else z)), some (.int (ii (6 * x + (j + 1)))), v6'] [] σ top sl res → am_to cd_t cs d 150 137 [some (.ref m), some (.int (tI t)), some (.int (ii (n27 w))), some (.int (ii k)), some (.int z), some (.int (ii (6 * x + j))), v6'] [] σ top sl res := by
    intro v6' res hf hh
    rw [hf, if_neg (by decide)] at hh
    refine x_iinc cd_i150_137 rfl (z := ii (6 * x + (j + 1))) (ii_add _ 1) rfl ?_
    refine x_n cd_i150_140 rfl rfl ?_
    show am_to cd_t _ _ 150 6 _ _ _ _ _ _
    exact hh
  have takeIt : ∀ v6' res, mP dec pl k w t x j = true → am_to cd_t cs d 150 6 [some (.ref m), some (.int (tI t)), some (.int (ii (n27 w))), some (.int (ii k)), some (.int (if mP dec pl k w t x j = true then ii (6 * x + j) else z)), some (.int (ii (6 * x + (j + 1)))), v6'] [] σ top sl res → am_to cd_t cs d 150 133 [some (.ref m), some (.int (tI t)), some (.int (ii (n27 w))), some (.int (ii k)), some (.int z), some (.int (ii (6 * x + j))), v6'] [] σ top sl res := by
    intro v6' res hf hh
    rw [hf, if_pos rfl] at hh
    refine x_n cd_i150_133 rfl rfl ?_
    refine x_n cd_i150_135 rfl rfl ?_
    try dsimp only [List.set]
    show am_to cd_t _ _ 150 137 _ _ _ _ _ _
    refine x_iinc cd_i150_137 rfl (z := ii (6 * x + (j + 1))) (ii_add _ 1) rfl ?_
    refine x_n cd_i150_140 rfl rfl ?_
    show am_to cd_t _ _ 150 6 _ _ _ _ _ _
    exact hh
  have no : (decide (j < (memsOf dec x).length) && isNm k w ((memsOf dec x).getD j default)) = false → ∀ res, am_to cd_t cs d 150 6 [some (.ref m), some (.int (tI t)), some (.int (ii (n27 w))), some (.int (ii k)), some (.int (if mP dec pl k w t x j = true then ii (6 * x + j) else z)), some (.int (ii (6 * x + (j + 1)))), some (.int (ii 0))] [] σ top sl res → am_to cd_t cs d 150 78 [some (.ref m), some (.int (tI t)), some (.int (ii (n27 w))), some (.int (ii k)), some (.int z), some (.int (ii (6 * x + j))), v6] [] σ top sl res := by
    intro hf res hh
    refine x_ic cd_i150_78 (z := ii 0) rfl ?_
    refine x_n cd_i150_79 rfl rfl ?_
    try dsimp only [List.set]
    refine x_n cd_i150_81 rfl rfl ?_
    show am_to cd_t _ _ 150 83 _ _ _ _ _ _
    refine x_if_t cd_i150_83 rfl ?_
    exact skip _ res (by unfold mP; rw [hf, Bool.false_and]) hh
  have head : ∀ res, am_to cd_t cs d 150 22 [some (.ref m), some (.int (tI t)), some (.int (ii (n27 w))), some (.int (ii k)), some (.int z), some (.int (ii (6 * x + j))), v6] [.int (ii x), .ref (m + 2)] σ top sl res → am_to cd_t cs d 150 6 [some (.ref m), some (.int (tI t)), some (.int (ii (n27 w))), some (.int (ii k)), some (.int z), some (.int (ii (6 * x + j))), v6] [] σ top sl res := by
    intro res hh
    refine x_n cd_i150_6 rfl rfl ?_
    refine x_bi cd_i150_8 (z := ii 60) (by decide) ?_
    show am_to cd_t _ _ 150 10 _ _ _ _ _ _
    refine x_icmp_f cd_i150_10 (fun z => by have := (ii_le (by decide) (by omega)).mp (show ii 60 ≤ ii (6 * x + j) from z); omega) ?_
    refine x_n cd_i150_13 rfl rfl ?_
    refine x_getf cd_i150_14 hM.1 rfl rfl ?_
    refine x_n cd_i150_17 rfl rfl ?_
    refine x_bi cd_i150_19 (z := ii 6) (by decide) ?_
    show am_to cd_t _ _ 150 21 _ _ _ _ _ _
    refine x_idiv cd_i150_21 (fun z => absurd (show ii 6 = 0 from z) (by decide)) (div6 (by omega) hj) ?_
    exact hh
  cases hD : dec x with
  | none =>
    have emem : memsOf dec x = [] := by unfold memsOf; rw [hD]
    refine ⟨some (.int (ii 0)), fun res hh => head res ?_⟩
    refine x_bald cd_i150_22 (hM.2 2 (by decide) (by decide)) (show _ < 10 by omega) (by decide) ((hC x hx).1 hD) ?_
    exact x_if_t cd_i150_23 rfl (no (by rw [emem]; rfl) res hh)
  | some D =>
    obtain ⟨q1, q2, q3, q4, q5⟩ := (hC x hx).2 D hD
    have emem : memsOf dec x = D.2 := by unfold memsOf; rw [hD]
    have head2 : ∀ res, am_to cd_t cs d 150 41 [some (.ref m), some (.int (tI t)), some (.int (ii (n27 w))), some (.int (ii k)), some (.int z), some (.int (ii (6 * x + j))), v6] [.int (ii D.2.length), .int (ii j)] σ top sl res → am_to cd_t cs d 150 6 [some (.ref m), some (.int (tI t)), some (.int (ii (n27 w))), some (.int (ii k)), some (.int z), some (.int (ii (6 * x + j))), v6] [] σ top sl res := by
      intro res hh
      refine head res ?_
      refine x_bald cd_i150_22 (hM.2 2 (by decide) (by decide)) (show _ < 10 by omega) (by decide) (q1) ?_
      refine x_if_f cd_i150_23 (fun z => absurd (show (1 : Int32) = 0 from z) (by decide)) ?_
      refine x_n cd_i150_26 rfl rfl ?_
      refine x_bi cd_i150_28 (z := ii 6) (by decide) ?_
      show am_to cd_t _ _ 150 30 _ _ _ _ _ _
      refine x_irem cd_i150_30 (fun z => absurd (show ii 6 = 0 from z) (by decide)) (rem6 (by omega) hj) ?_
      refine x_n cd_i150_31 rfl rfl ?_
      refine x_getf cd_i150_32 hM.1 rfl rfl ?_
      refine x_n cd_i150_35 rfl rfl ?_
      refine x_bi cd_i150_37 (z := ii 6) (by decide) ?_
      show am_to cd_t _ _ 150 39 _ _ _ _ _ _
      refine x_idiv cd_i150_39 (fun z => absurd (show ii 6 = 0 from z) (by decide)) (div6 (by omega) hj) ?_
      refine x_iald cd_i150_40 (hM.2 4 (by decide) (by decide)) (show _ < 10 by omega) (by decide) (q3) ?_
      exact hh
    by_cases hjl : j < D.2.length
    · have hok := (hO x D hD).2.1 _ (getD_mem hjl)
      have mk := hok.1
      have hrow := q5 j hjl
      obtain ⟨h1, h2, h3, h4, h5, h6, h7⟩ := id hrow
      have head3 : ∀ res, am_to cd_t cs d 150 60 [some (.ref m), some (.int (tI t)), some (.int (ii (n27 w))), some (.int (ii k)), some (.int z), some (.int (ii (6 * x + j))), v6] [.int (ii k), .int (ii (D.2.getD j default).1)] σ top sl res → am_to cd_t cs d 150 6 [some (.ref m), some (.int (tI t)), some (.int (ii (n27 w))), some (.int (ii k)), some (.int z), some (.int (ii (6 * x + j))), v6] [] σ top sl res := by
        intro res hh
        refine head2 res (x_icmp_f cd_i150_41 (fun z => by have := (ii_le (by omega) (by omega)).mp (show ii D.2.length ≤ ii j from z); omega) ?_)
        refine x_n cd_i150_44 rfl rfl ?_
        refine x_getf cd_i150_45 hM.1 rfl rfl ?_
        refine x_n cd_i150_48 rfl rfl ?_
        show am_to cd_t _ _ 150 50 _ _ _ _ _ _
        refine x_iald cd_i150_50 (hM.2 5 (by decide) (by decide)) (show _ < 66 by omega) (by decide) (h1) ?_
        refine x_n cd_i150_51 rfl rfl ?_
        show am_to cd_t _ _ 150 52 _ _ _ _ _ _
        rcases (show k = 0 ∨ k = 1 by omega) with e | e
        · rw [e] at hh ⊢
          refine x_if_t cd_i150_52 rfl ?_
          refine x_ic cd_i150_59 (z := ii 0) rfl ?_
          show am_to cd_t _ _ 150 60 _ _ _ _ _ _
          exact hh
        · rw [e] at hh ⊢
          refine x_if_f cd_i150_52 (fun z => absurd (show (1 : Int32) = 0 from z) (by decide)) ?_
          refine x_ic cd_i150_55 (z := ii 1) rfl ?_
          refine x_n cd_i150_56 rfl rfl ?_
          show am_to cd_t _ _ 150 60 _ _ _ _ _ _
          exact hh
      have eis : (decide (j < (memsOf dec x).length) && isNm k w ((memsOf dec x).getD j default)) = isNm k w (D.2.getD j default) := by
        rw [emem, decide_eq_true hjl, Bool.true_and]
      rw [eis] at no
      by_cases ek : (D.2.getD j default).1 = k
      · have head4 : ∀ res, am_to cd_t cs d 150 71 [some (.ref m), some (.int (tI t)), some (.int (ii (n27 w))), some (.int (ii k)), some (.int z), some (.int (ii (6 * x + j))), v6] [.int (ii (n27 w)), .int (ii (n27 (D.2.getD j default).2.2.2.1))] σ top sl res → am_to cd_t cs d 150 6 [some (.ref m), some (.int (tI t)), some (.int (ii (n27 w))), some (.int (ii k)), some (.int z), some (.int (ii (6 * x + j))), v6] [] σ top sl res := by
          intro res hh
          refine head3 res (x_icmp_f cd_i150_60 (fun z => z (by rw [ek])) ?_)
          refine x_n cd_i150_63 rfl rfl ?_
          refine x_getf cd_i150_64 hM.1 rfl rfl ?_
          refine x_n cd_i150_67 rfl rfl ?_
          show am_to cd_t _ _ 150 69 _ _ _ _ _ _
          refine x_iald cd_i150_69 (hM.2 8 (by decide) (by decide)) (show _ < 66 by omega) (by decide) (h4) ?_
          refine x_n cd_i150_70 rfl rfl ?_
          show am_to cd_t _ _ 150 71 _ _ _ _ _ _
          exact hh
        by_cases ew : (D.2.getD j default).2.2.2.1 = w
        · have eyes : isNm k w (D.2.getD j default) = true := by
            unfold isNm
            rw [beq_iff_eq.mpr ek, beq_iff_eq.mpr ew]
            rfl
          have head5 : ∀ res, am_to cd_t cs d 150 87 [some (.ref m), some (.int (tI t)), some (.int (ii (n27 w))), some (.int (ii k)), some (.int z), some (.int (ii (6 * x + j))), some (.int (ii 1))] [.int (tI t)] σ top sl res → am_to cd_t cs d 150 6 [some (.ref m), some (.int (tI t)), some (.int (ii (n27 w))), some (.int (ii k)), some (.int z), some (.int (ii (6 * x + j))), v6] [] σ top sl res := by
            intro res hh
            refine head4 res (x_icmp_f cd_i150_71 (fun z => z (by rw [ew])) ?_)
            refine x_ic cd_i150_74 (z := ii 1) rfl ?_
            refine x_n cd_i150_75 rfl rfl ?_
            refine x_n cd_i150_79 rfl rfl ?_
            try dsimp only [List.set]
            refine x_n cd_i150_81 rfl rfl ?_
            show am_to cd_t _ _ 150 83 _ _ _ _ _ _
            refine x_if_f cd_i150_83 (fun z => absurd (show (1 : Int32) = 0 from z) (by decide)) ?_
            refine x_n cd_i150_86 rfl rfl ?_
            show am_to cd_t _ _ 150 87 _ _ _ _ _ _
            exact hh
          refine ⟨some (.int (ii 1)), fun res hh => head5 res ?_⟩
          cases t with
          | inl t =>
            have ht : t < 13 := ht
            have emp : mP dec pl k w (.inl t) x j = (decide (3 ≤ t) && snB dec pl (t - 3) x j) := by
              unfold mP
              rw [eis, eyes, Bool.true_and]
            have hs := m_sees (cs := cs) (d := d - 1) (top := top) (sl := sl) (t := t) (by omega) hM hC hO hr hpl ht hD hjl
            rw [← emp] at hs
            refine x_if_f cd_i150_87 (show ¬ ii t < 0 from ii_neg (by omega)) ?_
            refine x_n cd_i150_90 rfl rfl ?_
            refine x_n cd_i150_91 rfl rfl ?_
            refine x_n cd_i150_92 rfl rfl ?_
            show am_to cd_t _ _ 150 94 _ _ _ _ _ _
            refine x_callv (as' := [.int (tI (.inl t)), .int (ii (6 * x + j))]) cd_i150_94 hM.1 (by omega) rfl rfl rfl rfl rfl rfl (hs) ?_
            cases hb : mP dec pl k w (.inl t) x j with
            | true =>
              refine x_if_f cd_i150_97 (fun z => absurd (show (1 : Int32) = 0 from z) (by decide)) ?_
              refine x_n cd_i150_100 rfl rfl ?_
              show am_to cd_t _ _ 150 133 _ _ _ _ _ _
              exact takeIt _ res hb hh
            | false => exact x_if_t cd_i150_97 rfl (skip _ res hb hh)
          | inr c =>
            have hc : c < 10 := ht
            obtain ⟨t1, t2⟩ := tI_neg hc
            have hus := m_usable (cs := cs) (d := d - 1) (top := top) (sl := sl) hM hpl hx hj hrow
            have emp : mP dec pl k w (.inr c) x j = ((x == c) && (D.2.getD j default).2.2.1 && usB pl x (D.2.getD j default)) := by
              unfold mP
              rw [eis, eyes, Bool.true_and, emem]
            refine x_if_t cd_i150_87 (show (-1 - ii c : Int32) < 0 from t1) ?_
            refine x_n cd_i150_103 rfl rfl ?_
            refine x_bi cd_i150_105 (z := ii 6) (by decide) ?_
            show am_to cd_t _ _ 150 107 _ _ _ _ _ _
            refine x_idiv cd_i150_107 (fun z => absurd (show ii 6 = 0 from z) (by decide)) (div6 (by omega) hj) ?_
            refine x_ic cd_i150_108 (z := (-1)) rfl ?_
            refine x_n cd_i150_109 rfl rfl ?_
            show am_to cd_t _ _ 150 110 _ _ _ _ _ _
            refine x_isub cd_i150_110 (z := ii c) t2 ?_
            by_cases ec : x = c
            · refine x_icmp_f cd_i150_111 (fun z => z (by rw [ec])) ?_
              rw [beq_iff_eq.mpr ec, Bool.true_and] at emp
              have h2' : a 6 (6 * x + j) = b2i (D.2.getD j default).2.2.1 := by
                rw [h2, beq_eq_false_iff_ne.mpr (show ¬ (D.2.getD j default).1 = 2 by omega), Bool.or_false]
              refine x_n cd_i150_114 rfl rfl ?_
              refine x_getf cd_i150_115 hM.1 rfl rfl ?_
              refine x_n cd_i150_118 rfl rfl ?_
              show am_to cd_t _ _ 150 120 _ _ _ _ _ _
              refine x_bald cd_i150_120 (hM.2 6 (by decide) (by decide)) (show _ < 66 by omega) (by decide) (h2') ?_
              cases hs : (D.2.getD j default).2.2.1 with
              | false =>
                rw [hs, Bool.false_and] at emp
                exact x_if_t cd_i150_121 rfl (skip _ res emp hh)
              | true =>
                rw [hs, Bool.true_and] at emp
                refine x_if_f cd_i150_121 (fun z => absurd (show (1 : Int32) = 0 from z) (by decide)) ?_
                refine x_n cd_i150_124 rfl rfl ?_
                refine x_n cd_i150_125 rfl rfl ?_
                show am_to cd_t _ _ 150 127 _ _ _ _ _ _
                refine x_callv (as' := [.int (ii (6 * x + j))]) cd_i150_127 hM.1 (by omega) rfl rfl rfl rfl rfl rfl (hus) ?_
                cases hu : usB pl x (D.2.getD j default) with
                | true =>
                  rw [hu] at emp
                  exact x_if_f cd_i150_130 (fun z => absurd (show (1 : Int32) = 0 from z) (by decide)) (takeIt _ res emp hh)
                | false =>
                  rw [hu] at emp
                  exact x_if_t cd_i150_130 rfl (skip _ res emp hh)
            · rw [beq_eq_false_iff_ne.mpr ec, Bool.false_and, Bool.false_and] at emp
              exact x_icmp_t cd_i150_111 (fun z => ec ((ii_eq (by omega) (by omega)).mp z)) (skip _ res emp hh)
        · refine ⟨some (.int (ii 0)), fun res hh => head4 res (x_icmp_t cd_i150_71 (fun z => ew ((n27_eq hok.2.1 hw).mp z)) (no ?_ res hh))⟩
          unfold isNm
          rw [beq_eq_false_iff_ne.mpr ew, Bool.and_false]
      · refine ⟨some (.int (ii 0)), fun res hh => head3 res (x_icmp_t cd_i150_60 (fun z => ek ((ii_eq (by omega) (by omega)).mp z)) (no ?_ res hh))⟩
        unfold isNm
        rw [beq_eq_false_iff_ne.mpr ek, Bool.false_and]
    · refine ⟨some (.int (ii 0)), fun res hh => head2 res (x_icmp_t cd_i150_41 ((ii_le (by omega) (by omega)).mpr (by omega)) (no ?_ res hh))⟩
      rw [emem, decide_eq_false hjl, Bool.false_and]
end RM2
