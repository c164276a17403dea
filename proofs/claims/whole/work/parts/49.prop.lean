/-! proposal, letter -/
def propM (pr : List (List Nat × Nat × Nat)) (i w : Int32) : Int32 := if 0 ≤ i.toInt ∧ i.toInt < pr.length then (if w = 0 then ii (pr.getD i.toNatClampNeg default).1.length else if w = 1 then ii (pr.getD i.toNatClampNeg default).2.1 else if w = 2 then ii (pr.getD i.toNatClampNeg default).2.2 else -1) else -1
def lettM (pr : List (List Nat × Nat × Nat)) (i k : Int32) : Int32 := if 0 ≤ i.toInt ∧ i.toInt < pr.length then (if 0 ≤ k.toInt ∧ k.toInt < (pr.getD i.toNatClampNeg default).1.length then ii ((pr.getD i.toNatClampNeg default).1.getD k.toNatClampNeg 0) else 0) else 0
section PR
variable {cs : Nat → Value} {d b m top sl : Nat} {σ : am_H} {pr : List (List Nat × Nat × Nat)}
theorem clamp_lt {c : Int32} {n : Nat} (h0 : 0 ≤ c.toInt) (h : c.toInt < n) : c.toNatClampNeg < n := by
  show c.toInt.toNat < n
  omega
theorem x_proposed {i : Int32} (h : X_pr σ b pr) : ∃ r : Option Nat, am_to cd_t cs d 18 0 (am_ent 2 [.ref (b + 11), .int i]) [] σ top sl (.inl (some (va_rf r)), σ, top, sl) ∧
    ((0 ≤ i.toInt ∧ i.toInt < pr.length ∧ ∃ p, r = some p ∧ phr σ p (pr.getD i.toNatClampNeg default).1 (pr.getD i.toNatClampNeg default).2.2 (pr.getD i.toNatClampNeg default).2.1) ∨ (¬ (0 ≤ i.toInt ∧ i.toInt < pr.length) ∧ r = none)) := by
  obtain ⟨⟨t, h1⟩, h2, g, h3, h4⟩ := h
  by_cases hi : 0 ≤ i.toInt ∧ i.toInt < pr.length
  · have hlt := clamp_lt hi.1 hi.2
    obtain ⟨p, k1, k2⟩ := h4 _ hlt
    have e := Int32_nn (n := i) hi.1
    refine ⟨some p, ?_, Or.inl ⟨hi.1, hi.2, p, rfl, k2⟩⟩
    refine x_n cd_i18_0 rfl rfl ?_
    show am_to cd_t _ _ 18 1 _ _ _ _ _ _
    refine x_if_f cd_i18_1 (fun z => by have := neg_iff.mp (show i < 0 from z); omega) ?_
    refine x_n cd_i18_4 rfl rfl ?_
    refine x_n cd_i18_5 rfl rfl ?_
    refine x_getf cd_i18_6 (by assumption) rfl rfl ?_
    show am_to cd_t _ _ 18 9 _ _ _ _ _ _
    refine x_icmp_f cd_i18_9 (fun z => by have := (c_le (by omega)).mp (show ii pr.length ≤ i from z); omega) ?_
    refine x_n cd_i18_12 rfl rfl ?_
    refine x_getf cd_i18_13 (by assumption) rfl rfl ?_
    refine x_n cd_i18_16 rfl rfl ?_
    show am_to cd_t _ _ 18 17 _ _ _ _ _ _
    have st : am_to cd_t cs d 18 17 (am_ent 2 [.ref (b + 11), .int i]) [.int (ii i.toNatClampNeg), .ref (b + 13)] σ top sl (.inl (some (va_rf (some p))), σ, top, sl) := by
      refine x_aaload cd_i18_17 h3 (by omega) (by decide) ?_
      rw [k1]
      refine x_n cd_i18_18 rfl rfl ?_
      show am_to cd_t _ _ 18 22 _ _ _ _ _ _
      exact x_end cd_i18_22 rfl rfl rfl
    rw [← e] at st
    exact st
  · refine ⟨none, ?_, Or.inr ⟨hi, rfl⟩⟩
    refine x_n cd_i18_0 rfl rfl ?_
    show am_to cd_t _ _ 18 1 _ _ _ _ _ _
    refine x_if cd_i18_1 (fun z => ?_) (fun z => ?_)
    · refine x_n cd_i18_21 rfl rfl ?_
      show am_to cd_t _ _ 18 22 _ _ _ _ _ _
      exact x_end cd_i18_22 rfl rfl rfl
    · have z1 := mt neg_iff.mpr (show ¬ i < 0 from z)
      refine x_n cd_i18_4 rfl rfl ?_
      refine x_n cd_i18_5 rfl rfl ?_
      refine x_getf cd_i18_6 (by assumption) rfl rfl ?_
      show am_to cd_t _ _ 18 9 _ _ _ _ _ _
      refine x_icmp_t cd_i18_9 ((c_le (by omega)).mpr (by omega)) ?_
      refine x_n cd_i18_21 rfl rfl ?_
      show am_to cd_t _ _ 18 22 _ _ _ _ _ _
      exact x_end cd_i18_22 rfl rfl rfl
theorem w_ne {w : Int32} {k : Nat} (hk : k < 2147483648) (h : w.toInt = k) : w = ii k := by
  rw [← Int32.toInt_inj, ii_toInt hk]
  exact h
theorem x_proposal {i w : Int32} {v : Value} (hd : 0 < d) (hx : X_o σ b v) (h : X_pr σ b pr) : am_to cd_t cs d 17 0 (am_ent 4 [.ref b, .int i, .int w]) [] σ top sl (.inl (some (.int (propM pr i w))), σ, top, sl) := by
  obtain ⟨t, h1⟩ := h.1
  obtain ⟨r, k1, k2⟩ := x_proposed (cs := cs) (d := d - 1) (top := top) (sl := sl) (i := i) h
  refine x_n cd_i17_0 rfl rfl ?_
  refine x_getf cd_i17_1 (by assumption) rfl rfl ?_
  refine x_n cd_i17_4 rfl rfl ?_
  show am_to cd_t _ _ 17 5 _ _ _ _ _ _
  refine x_callv (as' := [.int i]) cd_i17_5 h1 hd rfl rfl rfl rfl rfl rfl k1 ?_
  unfold propM
  rcases k2 with ⟨e1, e2, p, rfl, f, p1, p2, p3, p4⟩ | ⟨e1, rfl⟩
  · rw [if_pos ⟨e1, e2⟩]
    refine x_n cd_i17_8 rfl rfl ?_
    try dsimp only [List.set]
    refine x_n cd_i17_9 rfl rfl ?_
    show am_to cd_t _ _ 17 10 _ _ _ _ _ _
    refine x_nn_t cd_i17_10 ?_
    refine x_n cd_i17_15 rfl rfl ?_
    show am_to cd_t _ _ 17 16 _ _ _ _ _ _
    by_cases w0 : w = 0
    · subst w0
      rw [if_pos rfl]
      refine x_tsw_i cd_i17_16 (j := 0) (p := 44) (by decide) (by decide) rfl rfl ?_
      refine x_n cd_i17_44 rfl rfl ?_
      refine x_getf cd_i17_45 (by assumption) rfl rfl ?_
      show am_to cd_t _ _ 17 48 _ _ _ _ _ _
      exact x_end cd_i17_48 rfl rfl rfl
    · rw [if_neg w0]
      by_cases w1 : w = 1
      · subst w1
        rw [if_pos rfl]
        refine x_tsw_i cd_i17_16 (j := 1) (p := 49) (by decide) (by decide) rfl rfl ?_
        refine x_n cd_i17_49 rfl rfl ?_
        refine x_getf cd_i17_50 (by assumption) rfl rfl ?_
        show am_to cd_t _ _ 17 53 _ _ _ _ _ _
        exact x_end cd_i17_53 rfl rfl rfl
      · rw [if_neg w1]
        by_cases w2 : w = 2
        · subst w2
          rw [if_pos rfl]
          refine x_tsw_i cd_i17_16 (j := 2) (p := 54) (by decide) (by decide) rfl rfl ?_
          refine x_n cd_i17_54 rfl rfl ?_
          refine x_getf cd_i17_55 (by assumption) rfl rfl ?_
          show am_to cd_t _ _ 17 58 _ _ _ _ _ _
          exact x_end cd_i17_58 rfl rfl rfl
        · rw [if_neg w2]
          have n0 := mt (w_ne (w := w) (k := 0) (by decide)) w0
          have n1 := mt (w_ne (w := w) (k := 1) (by decide)) w1
          have n2 := mt (w_ne (w := w) (k := 2) (by decide)) w2
          refine x_tsw_d cd_i17_16 (p := 59) (by omega) rfl ?_
          refine x_ic cd_i17_59 (z := (-1)) rfl ?_
          show am_to cd_t _ _ 17 60 _ _ _ _ _ _
          exact x_end cd_i17_60 rfl rfl rfl
  · rw [if_neg e1]
    refine x_n cd_i17_8 rfl rfl ?_
    try dsimp only [List.set]
    refine x_n cd_i17_9 rfl rfl ?_
    show am_to cd_t _ _ 17 10 _ _ _ _ _ _
    refine x_nn_f cd_i17_10 ?_
    refine x_ic cd_i17_13 (z := (-1)) rfl ?_
    show am_to cd_t _ _ 17 14 _ _ _ _ _ _
    exact x_end cd_i17_14 rfl rfl rfl
theorem x_letterAt {p : Nat} {txt : List Nat} {ty cost : Nat} {k : Int32} (h : phr σ p txt ty cost) : am_to cd_t cs d 20 0 (am_ent 2 [.ref p, .int k]) [] σ top sl (.inl (some (.int (if 0 ≤ k.toInt ∧ k.toInt < txt.length then ii (txt.getD k.toNatClampNeg 0) else 0))), σ, top, sl) := by
  obtain ⟨f, p1, p2, p3, p4⟩ := h
  by_cases hk : 0 ≤ k.toInt ∧ k.toInt < txt.length
  · rw [if_pos hk]
    have hlt := clamp_lt hk.1 hk.2
    have e := Int32_nn (n := k) hk.1
    refine x_n cd_i20_0 rfl rfl ?_
    show am_to cd_t _ _ 20 1 _ _ _ _ _ _
    refine x_if_f cd_i20_1 (fun z => by have := neg_iff.mp (show k < 0 from z); omega) ?_
    refine x_n cd_i20_4 rfl rfl ?_
    refine x_n cd_i20_5 rfl rfl ?_
    refine x_getf cd_i20_6 (by assumption) rfl rfl ?_
    show am_to cd_t _ _ 20 9 _ _ _ _ _ _
    refine x_icmp_f cd_i20_9 (fun z => by have := (c_le (by omega)).mp (show ii txt.length ≤ k from z); omega) ?_
    refine x_n cd_i20_12 rfl rfl ?_
    refine x_getf cd_i20_13 (by assumption) rfl rfl ?_
    refine x_n cd_i20_16 rfl rfl ?_
    show am_to cd_t _ _ 20 17 _ _ _ _ _ _
    have st : am_to cd_t cs d 20 17 (am_ent 2 [.ref p, .int k]) [.int (ii k.toNatClampNeg), .ref (p + 1)] σ top sl (.inl (some (.int (ii (txt.getD k.toNatClampNeg 0)))), σ, top, sl) := by
      refine x_caload cd_i20_17 p2 (by omega) (by decide) ?_
      rw [p4 _ hlt]
      refine x_n cd_i20_18 rfl rfl ?_
      show am_to cd_t _ _ 20 22 _ _ _ _ _ _
      exact x_end cd_i20_22 rfl rfl rfl
    rw [← e] at st
    exact st
  · rw [if_neg hk]
    refine x_n cd_i20_0 rfl rfl ?_
    show am_to cd_t _ _ 20 1 _ _ _ _ _ _
    refine x_if cd_i20_1 (fun z => ?_) (fun z => ?_)
    · refine x_ic cd_i20_21 (z := ii 0) rfl ?_
      show am_to cd_t _ _ 20 22 _ _ _ _ _ _
      exact x_end cd_i20_22 rfl rfl rfl
    · have z1 := mt neg_iff.mpr (show ¬ k < 0 from z)
      refine x_n cd_i20_4 rfl rfl ?_
      refine x_n cd_i20_5 rfl rfl ?_
      refine x_getf cd_i20_6 (by assumption) rfl rfl ?_
      show am_to cd_t _ _ 20 9 _ _ _ _ _ _
      refine x_icmp_t cd_i20_9 ((c_le (by omega)).mpr (by omega)) ?_
      refine x_ic cd_i20_21 (z := ii 0) rfl ?_
      show am_to cd_t _ _ 20 22 _ _ _ _ _ _
      exact x_end cd_i20_22 rfl rfl rfl
theorem x_letter {i k : Int32} {v : Value} (hd : 0 < d) (hx : X_o σ b v) (h : X_pr σ b pr) : am_to cd_t cs d 19 0 (am_ent 4 [.ref b, .int i, .int k]) [] σ top sl (.inl (some (.int (lettM pr i k))), σ, top, sl) := by
  obtain ⟨t, h1⟩ := h.1
  obtain ⟨r, k1, k2⟩ := x_proposed (cs := cs) (d := d - 1) (top := top) (sl := sl) (i := i) h
  refine x_n cd_i19_0 rfl rfl ?_
  refine x_getf cd_i19_1 (by assumption) rfl rfl ?_
  refine x_n cd_i19_4 rfl rfl ?_
  show am_to cd_t _ _ 19 5 _ _ _ _ _ _
  refine x_callv (as' := [.int i]) cd_i19_5 h1 hd rfl rfl rfl rfl rfl rfl k1 ?_
  unfold lettM
  rcases k2 with ⟨e1, e2, p, rfl, hp⟩ | ⟨e1, rfl⟩
  · rw [if_pos ⟨e1, e2⟩]
    refine x_n cd_i19_8 rfl rfl ?_
    try dsimp only [List.set]
    refine x_n cd_i19_9 rfl rfl ?_
    show am_to cd_t _ _ 19 10 _ _ _ _ _ _
    refine x_nn_t cd_i19_10 ?_
    refine x_n cd_i19_17 rfl rfl ?_
    refine x_n cd_i19_18 rfl rfl ?_
    show am_to cd_t _ _ 19 19 _ _ _ _ _ _
    obtain ⟨f, p1, -⟩ := id hp
    refine x_callv (as' := [.int k]) cd_i19_19 p1 hd rfl rfl rfl rfl rfl rfl (x_letterAt hp) ?_
    exact x_end cd_i19_22 rfl rfl rfl
  · rw [if_neg e1]
    refine x_n cd_i19_8 rfl rfl ?_
    try dsimp only [List.set]
    refine x_n cd_i19_9 rfl rfl ?_
    show am_to cd_t _ _ 19 10 _ _ _ _ _ _
    refine x_nn_f cd_i19_10 ?_
    refine x_ic cd_i19_13 (z := ii 0) rfl ?_
    refine x_n cd_i19_14 rfl rfl ?_
    show am_to cd_t _ _ 19 22 _ _ _ _ _ _
    exact x_end cd_i19_22 rfl rfl rfl
theorem out_iff {c : Int32} {n : Nat} (hn : n < 2147483648) : (c < ii 0 ∨ ii n + -1 < c) ↔ ¬ (0 ≤ c.toInt ∧ c.toInt < n) := by
  cases n with
  | zero =>
    rw [lt_c (by decide), show ii 0 + (-1 : Int32) = -1 by decide, Int32.lt_iff_toInt_lt, show (-1 : Int32).toInt = -1 by decide]
    omega
  | succ n =>
    rw [ii_sub1 (rfl : n + 1 = n + 1), c_lt (by omega), lt_c (by decide)]
    omega
theorem ii_sub_1 (n : Nat) : ii n - ii 1 = ii n + -1 := by
  rw [Int32.sub_eq_add_neg]
  rfl
theorem m_proposal {i : Nat → Int32} {a : Nat → Nat → Int32} {q w : Int32} (hd : 0 < d) (hM : mo σ m i a) (hP : M_pr i a pr) :
    am_to cd_t cs d 153 0 (am_ent 3 [.ref m, .int q, .int w]) [] σ top sl (.inl (some (.int (propM pr q w))), am_up σ m (.inr (.inl (11, mo_f m (upd i 0 0)))), top, sl) := by
  have hM1 := hM.put (upd i 0 0)
  obtain ⟨p1, p2, p3⟩ := hP
  refine x_n cd_i153_0 rfl rfl ?_
  refine x_ic cd_i153_1 (z := ii 0) rfl ?_
  show am_to cd_t _ _ 153 2 _ _ _ _ _ _
  refine x_putf cd_i153_2 (fs' := mo_f m (upd i 0 0)) hM.1 rfl rfl rfl ?_
  refine x_n cd_i153_5 rfl rfl ?_
  refine x_ic cd_i153_6 (z := ii 0) rfl ?_
  refine x_n cd_i153_7 rfl rfl ?_
  show am_to cd_t _ _ 153 8 _ _ _ _ _ _
  refine x_getf cd_i153_8 hM1.1 rfl rfl ?_
  rw [show upd i 0 0 27 = ii pr.length from p1]
  refine x_ic cd_i153_11 (z := ii 1) rfl ?_
  show am_to cd_t _ _ 153 12 _ _ _ _ _ _
  refine x_isub cd_i153_12 (ii_sub_1 _) ?_
  refine x_calls (as := [.int q, .int (ii 0), .int (ii pr.length + -1)]) cd_i153_13 hd rfl rfl rfl rfl rfl rfl m_outside ?_
  unfold propM
  by_cases hq : 0 ≤ q.toInt ∧ q.toInt < pr.length
  · rw [if_neg (fun z => (out_iff (by omega)).mp z hq), if_pos hq]
    have hlt := clamp_lt hq.1 hq.2
    obtain ⟨r1, r2, r3, r4, r5⟩ := p3 _ hlt
    have e := Int32_nn (n := q) hq.1
    refine x_if_f cd_i153_16 (fun z => z rfl) ?_
    refine x_n cd_i153_19 rfl rfl ?_
    refine x_ic cd_i153_20 (z := ii 0) rfl ?_
    refine x_ic cd_i153_21 (z := ii 2) rfl ?_
    show am_to cd_t _ _ 153 22 _ _ _ _ _ _
    refine x_calls (as := [.int w, .int (ii 0), .int (ii 2)]) cd_i153_22 hd rfl rfl rfl rfl rfl rfl m_outside ?_
    by_cases hw : w < ii 0 ∨ ii 2 < w
    · rw [if_pos hw, if_neg (fun z => by rw [z] at hw; exact absurd hw (by decide)), if_neg (fun z => by rw [z] at hw; exact absurd hw (by decide)), if_neg (fun z => by rw [z] at hw; exact absurd hw (by decide))]
      refine x_if_f cd_i153_25 (fun z => absurd (show (1 : Int32) = 0 from z) (by decide)) ?_
      refine x_ic cd_i153_28 (z := (-1)) rfl ?_
      show am_to cd_t _ _ 153 29 _ _ _ _ _ _
      exact x_end cd_i153_29 rfl rfl rfl
    · rw [if_neg hw]
      have b1 := mt (fun z => Or.inl ((lt_c (n := w) (k := 0) (by decide)).mpr z)) hw
      have b2 := mt (fun z => Or.inr ((c_lt (n := w) (k := 2) (by decide)).mpr z)) hw
      refine x_if_t cd_i153_25 rfl ?_
      refine x_n cd_i153_30 rfl rfl ?_
      show am_to cd_t _ _ 153 31 _ _ _ _ _ _
      by_cases w0 : w = 0
      · rw [if_pos w0]
        refine x_if_f cd_i153_31 (fun z => z w0) ?_
        refine x_n cd_i153_34 rfl rfl ?_
        show am_to cd_t _ _ 153 35 _ _ _ _ _ _
        refine x_getf cd_i153_35 hM1.1 rfl rfl ?_
        rw [e]
        refine x_n cd_i153_38 rfl rfl ?_
        show am_to cd_t _ _ 153 39 _ _ _ _ _ _
        refine x_iaload cd_i153_39 (hM1.2 21 (by decide) (by decide)) (show q.toNatClampNeg < 10 by omega) (by decide) ?_
        rw [← e, r1]
        refine x_n cd_i153_40 rfl rfl ?_
        show am_to cd_t _ _ 153 63 _ _ _ _ _ _
        exact x_end cd_i153_63 rfl rfl rfl
      · rw [if_neg w0]
        refine x_if_t cd_i153_31 (show ¬ w = 0 from w0) ?_
        refine x_n cd_i153_43 rfl rfl ?_
        refine x_ic cd_i153_44 (z := ii 1) rfl ?_
        show am_to cd_t _ _ 153 45 _ _ _ _ _ _
        by_cases w1 : w = 1
        · rw [if_pos w1]
          refine x_icmp_f cd_i153_45 (fun z => z w1) ?_
          refine x_n cd_i153_48 rfl rfl ?_
          show am_to cd_t _ _ 153 49 _ _ _ _ _ _
          refine x_getf cd_i153_49 hM1.1 rfl rfl ?_
          rw [e]
          refine x_n cd_i153_52 rfl rfl ?_
          show am_to cd_t _ _ 153 53 _ _ _ _ _ _
          refine x_iaload cd_i153_53 (hM1.2 19 (by decide) (by decide)) (show q.toNatClampNeg < 10 by omega) (by decide) ?_
          rw [← e, r3]
          refine x_n cd_i153_54 rfl rfl ?_
          show am_to cd_t _ _ 153 63 _ _ _ _ _ _
          exact x_end cd_i153_63 rfl rfl rfl
        · rw [if_neg w1]
          have w2 : w = 2 := by
            have n0 := mt (w_ne (w := w) (k := 0) (by decide)) w0
            have n1 := mt (w_ne (w := w) (k := 1) (by decide)) w1
            exact w_ne (k := 2) (by decide) (by omega)
          rw [if_pos w2]
          refine x_icmp_t cd_i153_45 (show ¬ w = ii 1 from w1) ?_
          refine x_n cd_i153_57 rfl rfl ?_
          show am_to cd_t _ _ 153 58 _ _ _ _ _ _
          refine x_getf cd_i153_58 hM1.1 rfl rfl ?_
          rw [e]
          refine x_n cd_i153_61 rfl rfl ?_
          show am_to cd_t _ _ 153 62 _ _ _ _ _ _
          refine x_iaload cd_i153_62 (hM1.2 20 (by decide) (by decide)) (show q.toNatClampNeg < 10 by omega) (by decide) ?_
          rw [← e, r4]
          exact x_end cd_i153_63 rfl rfl rfl
  · rw [if_pos ((out_iff (by omega)).mpr hq), if_neg hq]
    refine x_if_t cd_i153_16 (fun z => absurd (show (1 : Int32) = 0 from z) (by decide)) ?_
    refine x_ic cd_i153_28 (z := (-1)) rfl ?_
    show am_to cd_t _ _ 153 29 _ _ _ _ _ _
    exact x_end cd_i153_29 rfl rfl rfl
theorem m_letter {i : Nat → Int32} {a : Nat → Nat → Int32} {q k : Int32} (hd : 0 < d) (hM : mo σ m i a) (hP : M_pr i a pr) :
    am_to cd_t cs d 154 0 (am_ent 3 [.ref m, .int q, .int k]) [] σ top sl (.inl (some (.int (lettM pr q k))), am_up σ m (.inr (.inl (11, mo_f m (upd i 0 0)))), top, sl) := by
  have hM1 := hM.put (upd i 0 0)
  obtain ⟨p1, p2, p3⟩ := hP
  refine x_n cd_i154_0 rfl rfl ?_
  refine x_ic cd_i154_1 (z := ii 0) rfl ?_
  show am_to cd_t _ _ 154 2 _ _ _ _ _ _
  refine x_putf cd_i154_2 (fs' := mo_f m (upd i 0 0)) hM.1 rfl rfl rfl ?_
  refine x_n cd_i154_5 rfl rfl ?_
  refine x_ic cd_i154_6 (z := ii 0) rfl ?_
  refine x_n cd_i154_7 rfl rfl ?_
  show am_to cd_t _ _ 154 8 _ _ _ _ _ _
  refine x_getf cd_i154_8 hM1.1 rfl rfl ?_
  rw [show upd i 0 0 27 = ii pr.length from p1]
  refine x_ic cd_i154_11 (z := ii 1) rfl ?_
  show am_to cd_t _ _ 154 12 _ _ _ _ _ _
  refine x_isub cd_i154_12 (ii_sub_1 _) ?_
  refine x_calls (as := [.int q, .int (ii 0), .int (ii pr.length + -1)]) cd_i154_13 hd rfl rfl rfl rfl rfl rfl m_outside ?_
  unfold lettM
  by_cases hq : 0 ≤ q.toInt ∧ q.toInt < pr.length
  · rw [if_neg (fun z => (out_iff (by omega)).mp z hq), if_pos hq]
    have hlt := clamp_lt hq.1 hq.2
    obtain ⟨r1, r2, r3, r4, r5⟩ := p3 _ hlt
    have e := Int32_nn (n := q) hq.1
    refine x_if_f cd_i154_16 (fun z => z rfl) ?_
    refine x_n cd_i154_19 rfl rfl ?_
    refine x_ic cd_i154_20 (z := ii 0) rfl ?_
    refine x_n cd_i154_21 rfl rfl ?_
    show am_to cd_t _ _ 154 22 _ _ _ _ _ _
    refine x_getf cd_i154_22 hM1.1 rfl rfl ?_
    rw [e]
    refine x_n cd_i154_25 rfl rfl ?_
    show am_to cd_t _ _ 154 26 _ _ _ _ _ _
    refine x_iaload cd_i154_26 (hM1.2 21 (by decide) (by decide)) (show q.toNatClampNeg < 10 by omega) (by decide) ?_
    rw [← e, r1]
    refine x_ic cd_i154_27 (z := ii 1) rfl ?_
    show am_to cd_t _ _ 154 28 _ _ _ _ _ _
    refine x_isub cd_i154_28 (ii_sub_1 _) ?_
    refine x_calls (as := [.int k, .int (ii 0), .int (ii (pr.getD q.toNatClampNeg default).1.length + -1)]) cd_i154_29 hd rfl rfl rfl rfl rfl rfl m_outside ?_
    by_cases hk : 0 ≤ k.toInt ∧ k.toInt < (pr.getD q.toNatClampNeg default).1.length
    · rw [if_neg (fun z => (out_iff (by omega)).mp z hk), if_pos hk]
      have hlk := clamp_lt hk.1 hk.2
      have ek := Int32_nn (n := k) hk.1
      refine x_if_t cd_i154_32 rfl ?_
      refine x_n cd_i154_39 rfl rfl ?_
      show am_to cd_t _ _ 154 40 _ _ _ _ _ _
      refine x_getf cd_i154_40 hM1.1 rfl rfl ?_
      refine x_bi cd_i154_43 (z := ii 24) (by decide) ?_
      refine x_n cd_i154_45 rfl rfl ?_
      show am_to cd_t _ _ 154 46 _ _ _ _ _ _
      refine x_imul cd_i154_46 (z := ii (24 * q.toNatClampNeg)) (by rw [← ii_mul, ← e]) ?_
      refine x_n cd_i154_47 rfl rfl ?_
      show am_to cd_t _ _ 154 48 _ _ _ _ _ _
      refine x_iadd cd_i154_48 (z := ii (24 * q.toNatClampNeg + k.toNatClampNeg)) (by rw [← ii_add, ← ek]) ?_
      refine x_caload cd_i154_49 (hM1.2 22 (by decide) (by decide)) (show 24 * q.toNatClampNeg + k.toNatClampNeg < 240 by omega) (by decide) ?_
      rw [r5 _ hlk]
      exact x_end cd_i154_50 rfl rfl rfl
    · rw [if_pos ((out_iff (by omega)).mpr hk), if_neg hk]
      refine x_if_f cd_i154_32 (fun z => absurd (show (1 : Int32) = 0 from z) (by decide)) ?_
      refine x_ic cd_i154_35 (z := ii 0) rfl ?_
      refine x_n cd_i154_36 rfl rfl ?_
      show am_to cd_t _ _ 154 50 _ _ _ _ _ _
      exact x_end cd_i154_50 rfl rfl rfl
  · rw [if_pos ((out_iff (by omega)).mpr hq), if_neg hq]
    refine x_if_t cd_i154_16 (fun z => absurd (show (1 : Int32) = 0 from z) (by decide)) ?_
    refine x_ic cd_i154_35 (z := ii 0) rfl ?_
    refine x_n cd_i154_36 rfl rfl ?_
    show am_to cd_t _ _ 154 50 _ _ _ _ _ _
    exact x_end cd_i154_50 rfl rfl rfl
end PR
