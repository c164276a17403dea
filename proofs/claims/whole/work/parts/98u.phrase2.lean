/-! the desk's phrases: order, copies -/
section PI
variable {cs : Nat → Value} {d top sl : Nat} {σ : am_H}
def low7 (w : List Nat) : Prop := ∀ x ∈ w, x < 127
theorem getD_low7 {w : List Nat} {k : Nat} (h : low7 w) (hk : k < w.length) : w.getD k 0 < 127 := by
  rw [List.getD_eq_getElem?_getD, List.getElem?_eq_getElem hk]
  exact h _ (List.getElem_mem hk)
theorem x_long {p ty co : Nat} {w : List Nat} (h : phr σ p w ty co) : am_to cd_t cs d 75 0 (am_ent 1 [.ref p]) [] σ top sl (.inl (some (.int (b2i (decide (24 < w.length))))), σ, top, sl) := by
  obtain ⟨f, h1, h2, h3, h4⟩ := h
  refine x_n cd_i75_0 rfl rfl ?_
  refine x_getf cd_i75_1 (by assumption) rfl rfl ?_
  refine x_bi cd_i75_4 (z := ii 24) (by decide) ?_
  show am_to cd_t _ _ 75 6 _ _ _ _ _ _
  by_cases hl : 24 < w.length
  · rw [decide_eq_true hl]
    refine x_icmp_f cd_i75_6 (fun z => by have := (ii_le (by omega) (by decide)).mp (show ii w.length ≤ ii 24 from z); omega) ?_
    refine x_ic cd_i75_9 (z := ii 1) rfl ?_
    refine x_n cd_i75_10 rfl rfl ?_
    show am_to cd_t _ _ 75 14 _ _ _ _ _ _
    exact x_end cd_i75_14 rfl rfl rfl
  · rw [decide_eq_false hl]
    refine x_icmp_t cd_i75_6 ((ii_le (by omega) (by decide)).mpr (by omega)) ?_
    refine x_ic cd_i75_13 (z := ii 0) rfl ?_
    show am_to cd_t _ _ 75 14 _ _ _ _ _ _
    exact x_end cd_i75_14 rfl rfl rfl
theorem x_before {p q ty co ty' co' : Nat} {w v : List Nat} (h : phr σ p w ty co) (h' : phr σ q v ty' co') (hw : low7 w) (hv : low7 v) :
    am_to cd_t cs d 76 0 (am_ent 3 [.ref p, .ref q]) [] σ top sl (.inl (some (.int (b2i (ltT w v)))), σ, top, sl) := by
  obtain ⟨f, h1, h2, h3, h4⟩ := h
  obtain ⟨f', g1, g2, g3, g4⟩ := h'
  have last : ∀ lv2, ltT (w.drop (min w.length v.length)) (v.drop (min w.length v.length)) = decide (w.length < v.length) → am_to cd_t cs d 76 60 [some (.ref p), some (.ref q), lv2] [] σ top sl (.inl (some (.int (b2i (decide (w.length < v.length))))), σ, top, sl) := by
    intro lv2 _
    refine x_n cd_i76_60 rfl rfl ?_
    refine x_getf cd_i76_61 h1 rfl rfl ?_
    refine x_n cd_i76_64 rfl rfl ?_
    refine x_getf cd_i76_65 g1 rfl rfl ?_
    by_cases hl : w.length < v.length
    · rw [decide_eq_true hl]
      refine x_icmp_f cd_i76_68 (fun z => by have := (ii_le (by omega) (by omega)).mp (show ii v.length ≤ ii w.length from z); omega) ?_
      refine x_ic cd_i76_71 (z := ii 1) rfl ?_
      refine x_n cd_i76_72 rfl rfl ?_
      show am_to cd_t _ _ 76 76 _ _ _ _ _ _
      exact x_end cd_i76_76 rfl rfl rfl
    · rw [decide_eq_false hl]
      refine x_icmp_t cd_i76_68 ((ii_le (by omega) (by omega)).mpr (by omega)) ?_
      refine x_ic cd_i76_75 (z := ii 0) rfl ?_
      show am_to cd_t _ _ 76 76 _ _ _ _ _ _
      exact x_end cd_i76_76 rfl rfl rfl
  have hmin : ltT (w.drop (min w.length v.length)) (v.drop (min w.length v.length)) = decide (w.length < v.length) := by
    by_cases hl : w.length < v.length
    · rw [decide_eq_true hl, Nat.min_eq_left (by omega), List.drop_length, List.drop_eq_getElem_cons hl]
      rfl
    · rw [decide_eq_false hl, Nat.min_eq_right (by omega), List.drop_length]
      cases w.drop v.length <;> rfl
  have loop : ∀ (n k : Nat), k + n = min w.length v.length → am_to cd_t cs d 76 2 [some (.ref p), some (.ref q), some (.int (ii k))] [] σ top sl (.inl (some (.int (b2i (ltT (w.drop k) (v.drop k))))), σ, top, sl) := by
    intro n
    induction n with
    | zero =>
      intro k hk
      rw [show k = min w.length v.length by omega, hmin]
      have := last (some (.int (ii (min w.length v.length)))) hmin
      refine x_n cd_i76_2 rfl rfl ?_
      refine x_n cd_i76_3 rfl rfl ?_
      refine x_getf cd_i76_4 h1 rfl rfl ?_
      by_cases hl : w.length ≤ v.length
      · exact x_icmp_t cd_i76_7 ((ii_le (by omega) (by omega)).mpr (by omega)) this
      · refine x_icmp_f cd_i76_7 (fun z => by have := (ii_le (by omega) (by omega)).mp (show ii w.length ≤ ii (min w.length v.length) from z); omega) ?_
        refine x_n cd_i76_10 rfl rfl ?_
        refine x_n cd_i76_11 rfl rfl ?_
        refine x_getf cd_i76_12 g1 rfl rfl ?_
        exact x_icmp_t cd_i76_15 ((ii_le (by omega) (by omega)).mpr (by omega)) this
    | succ n ih =>
      intro k hk
      have hkw : k < w.length := by omega
      have hkv : k < v.length := by omega
      have lw := getD_low7 hw hkw
      have lv := getD_low7 hv hkv
      have gw : w[k] = w.getD k 0 := by rw [List.getD_eq_getElem?_getD, List.getElem?_eq_getElem hkw]; rfl
      have gv : v[k] = v.getD k 0 := by rw [List.getD_eq_getElem?_getD, List.getElem?_eq_getElem hkv]; rfl
      rw [List.drop_eq_getElem_cons hkw, List.drop_eq_getElem_cons hkv, gw, gv, ltT]
      refine x_n cd_i76_2 rfl rfl ?_
      refine x_n cd_i76_3 rfl rfl ?_
      refine x_getf cd_i76_4 h1 rfl rfl ?_
      refine x_icmp_f cd_i76_7 (fun z => by have := (ii_le (by omega) (by omega)).mp (show ii w.length ≤ ii k from z); omega) ?_
      refine x_n cd_i76_10 rfl rfl ?_
      refine x_n cd_i76_11 rfl rfl ?_
      refine x_getf cd_i76_12 g1 rfl rfl ?_
      refine x_icmp_f cd_i76_15 (fun z => by have := (ii_le (by omega) (by omega)).mp (show ii v.length ≤ ii k from z); omega) ?_
      refine x_n cd_i76_18 rfl rfl ?_
      refine x_getf cd_i76_19 h1 rfl rfl ?_
      refine x_n cd_i76_22 rfl rfl ?_
      refine x_caload cd_i76_23 h2 (by omega) (by decide) ?_
      rw [h4 k hkw]
      refine x_n cd_i76_24 rfl rfl ?_
      refine x_getf cd_i76_25 g1 rfl rfl ?_
      refine x_n cd_i76_28 rfl rfl ?_
      refine x_caload cd_i76_29 g2 (by omega) (by decide) ?_
      rw [g4 k hkv]
      by_cases ec : w.getD k 0 = v.getD k 0
      · rw [if_pos ec]
        refine x_icmp_t cd_i76_30 (by rw [ec]; exact rfl) ?_
        refine x_iinc cd_i76_54 rfl (ii_add _ 1) rfl ?_
        refine x_n cd_i76_57 rfl rfl ?_
        show am_to cd_t _ _ 76 2 _ _ _ _ _ _
        exact ih (k + 1) (by omega)
      · rw [if_neg ec]
        refine x_icmp_f cd_i76_30 (fun z => ec ((ii_eq (by omega) (by omega)).mp z)) ?_
        refine x_n cd_i76_33 rfl rfl ?_
        refine x_getf cd_i76_34 h1 rfl rfl ?_
        refine x_n cd_i76_37 rfl rfl ?_
        refine x_caload cd_i76_38 h2 (by omega) (by decide) ?_
        rw [h4 k hkw]
        refine x_n cd_i76_39 rfl rfl ?_
        refine x_getf cd_i76_40 g1 rfl rfl ?_
        refine x_n cd_i76_43 rfl rfl ?_
        refine x_caload cd_i76_44 g2 (by omega) (by decide) ?_
        rw [g4 k hkv]
        by_cases hl : w.getD k 0 < v.getD k 0
        · rw [decide_eq_true hl]
          refine x_icmp_f cd_i76_45 (fun z => by have := (ii_le (by omega) (by omega)).mp (show ii (v.getD k 0) ≤ ii (w.getD k 0) from z); omega) ?_
          refine x_ic cd_i76_48 (z := ii 1) rfl ?_
          refine x_n cd_i76_49 rfl rfl ?_
          show am_to cd_t _ _ 76 53 _ _ _ _ _ _
          exact x_end cd_i76_53 rfl rfl rfl
        · rw [decide_eq_false hl]
          refine x_icmp_t cd_i76_45 ((ii_le (by omega) (by omega)).mpr (by omega)) ?_
          refine x_ic cd_i76_52 (z := ii 0) rfl ?_
          show am_to cd_t _ _ 76 53 _ _ _ _ _ _
          exact x_end cd_i76_53 rfl rfl rfl
  refine x_ic cd_i76_0 (z := ii 0) rfl ?_
  refine x_n cd_i76_1 rfl rfl ?_
  try dsimp only [List.set]
  show am_to cd_t _ _ 76 2 _ _ _ _ _ _
  exact loop (min w.length v.length) 0 (Nat.zero_add _)
theorem ii_clamp {n : Nat} (h : n < 2147483648) : (ii n).toNatClampNeg = n := by
  show (ii n).toInt.toNat = n
  rw [ii_toInt h]
  rfl
theorem bi_copy {a b n0 n1 sp dp n : Nat} {f g : Nat → Int32} (h1 : σ a = some (.inl (.char, n0, .inl f))) (h2 : σ b = some (.inl (.char, n1, .inl g))) (hs : sp + n ≤ n0) (hdp : dp + n ≤ n1) (h0 : n0 < 2147483648) (hn1 : n1 < 2147483648) :
    am_bi 1004 [.ref a, .int (ii sp), .ref b, .int (ii dp), .int (ii n)] σ = some (none, am_up σ b (.inl (.char, n1, .inl (va_cpy f g sp dp n)))) := by
  simp only [am_bi, h1, h2]
  rw [ii_clamp (n := sp) (by omega), ii_clamp (n := dp) (by omega), ii_clamp (n := n) (by omega), if_neg]
  rintro (z | z | z | z | z)
  · exact ii_neg (by omega) z
  · exact ii_neg (by omega) z
  · exact ii_neg (by omega) z
  · omega
  · omega
theorem x_phCopy {p q ty co ty' co' : Nat} {w v : List Nat} (hd : 0 < d) (h : phr σ p w ty co) (h' : phr σ q v ty' co') (hpq : p ≠ q) (hpq1 : p ≠ q + 1) (hqp1 : q ≠ p + 1) :
    ∃ σ', am_to cd_t cs d 77 0 (am_ent 2 [.ref p, .ref q]) [] σ top sl (.inl none, σ', top, sl) ∧ phr σ' p v ty' co' ∧ ∀ x, x ≠ p → x ≠ p + 1 → σ' x = σ x := by
  obtain ⟨f, h1, h2, h3, h4⟩ := h
  obtain ⟨f', g1, g2, g3, g4⟩ := h'
  obtain ⟨s1, hs1⟩ : ∃ s, s = am_up σ (p + 1) (.inl (.char, 25, .inl (va_cpy f' f 0 0 v.length))) := ⟨_, rfl⟩
  have hbi : am_bi 1004 [.ref (q + 1), .int (ii 0), .ref (p + 1), .int (ii 0), .int (ii v.length)] σ = some (none, s1) := by
    rw [hs1]
    exact bi_copy g2 h2 (by omega) (by omega) (by decide) (by decide)
  have e1 : s1 p = _ := (hs1 ▸ am_up_ne _ _ (by omega)).trans h1
  have e2 : s1 q = _ := (hs1 ▸ am_up_ne _ _ (by omega)).trans g1
  have e3 : s1 (p + 1) = _ := hs1 ▸ am_up_self _ _ _
  obtain ⟨s2, hs2⟩ : ∃ s, s = am_up s1 p (.inr (.inl (8, [.ref (p + 1), .int (ii v.length), .int (ii ty), .int (ii co)]))) := ⟨_, rfl⟩
  have a1 : s2 p = _ := hs2 ▸ am_up_self _ _ _
  have a2 : s2 q = _ := (hs2 ▸ am_up_ne _ _ (Ne.symm hpq)).trans e2
  obtain ⟨s3, hs3⟩ : ∃ s, s = am_up s2 p (.inr (.inl (8, [.ref (p + 1), .int (ii v.length), .int (ii ty'), .int (ii co)]))) := ⟨_, rfl⟩
  have b1 : s3 p = _ := hs3 ▸ am_up_self _ _ _
  have b2 : s3 q = _ := (hs3 ▸ am_up_ne _ _ (Ne.symm hpq)).trans a2
  refine ⟨am_up s3 p (.inr (.inl (8, [.ref (p + 1), .int (ii v.length), .int (ii ty'), .int (ii co')]))), ?_, ⟨va_cpy f' f 0 0 v.length, am_up_self _ _ _, ?_, g3, fun j hj => ?_⟩, fun x x1 x2 => ?_⟩
  · refine x_n cd_i77_0 rfl rfl ?_
    refine x_getf cd_i77_1 g1 rfl rfl ?_
    refine x_ic cd_i77_4 (z := ii 0) rfl ?_
    refine x_n cd_i77_5 rfl rfl ?_
    show am_to cd_t _ _ 77 6 _ _ _ _ _ _
    refine x_getf cd_i77_6 h1 rfl rfl ?_
    refine x_ic cd_i77_9 (z := ii 0) rfl ?_
    refine x_n cd_i77_10 rfl rfl ?_
    show am_to cd_t _ _ 77 11 _ _ _ _ _ _
    refine x_getf cd_i77_11 g1 rfl rfl ?_
    refine x_callb (as := [.ref (q + 1), .int (ii 0), .ref (p + 1), .int (ii 0), .int (ii v.length)]) cd_i77_14 hd rfl rfl rfl rfl hbi ?_
    refine x_n cd_i77_17 rfl rfl ?_
    refine x_n cd_i77_18 rfl rfl ?_
    show am_to cd_t _ _ 77 19 _ _ _ _ _ _
    refine x_getf cd_i77_19 e2 rfl rfl ?_
    refine x_putf cd_i77_22 (fs' := [.ref (p + 1), .int (ii v.length), .int (ii ty), .int (ii co)]) e1 rfl rfl rfl ?_
    refine hs2 ▸ ?_
    refine x_n cd_i77_25 rfl rfl ?_
    refine x_n cd_i77_26 rfl rfl ?_
    show am_to cd_t _ _ 77 27 _ _ _ _ _ _
    refine x_getf cd_i77_27 a2 rfl rfl ?_
    refine x_putf cd_i77_30 (fs' := [.ref (p + 1), .int (ii v.length), .int (ii ty'), .int (ii co)]) a1 rfl rfl rfl ?_
    refine hs3 ▸ ?_
    refine x_n cd_i77_33 rfl rfl ?_
    refine x_n cd_i77_34 rfl rfl ?_
    show am_to cd_t _ _ 77 35 _ _ _ _ _ _
    refine x_getf cd_i77_35 b2 rfl rfl ?_
    refine x_putf cd_i77_38 (fs' := [.ref (p + 1), .int (ii v.length), .int (ii ty'), .int (ii co')]) b1 rfl rfl rfl ?_
    exact x_end cd_i77_41 rfl rfl rfl
  · rw [am_up_ne _ _ (by omega), hs3, am_up_ne _ _ (by omega), hs2, am_up_ne _ _ (by omega), e3]
  · show (if 0 ≤ j ∧ j < 0 + v.length then f' (0 + (j - 0)) else f j) = _
    rw [if_pos (by omega), show 0 + (j - 0) = j by omega]
    exact g4 j hj
  · rw [am_up_ne _ _ x1, hs3, am_up_ne _ _ x1, hs2, am_up_ne _ _ x1, hs1, am_up_ne _ _ x2]
theorem take25_app {w v : List Nat} (h : w.length ≤ 25) : (w ++ v).take 25 = w ++ v.take (min v.length (25 - w.length)) := by
  rw [List.take_append, List.take_of_length_le h]
  congr 1
  by_cases hl : v.length ≤ 25 - w.length
  · rw [Nat.min_eq_left hl, List.take_length, List.take_of_length_le hl]
  · rw [Nat.min_eq_right (by omega)]
theorem x_phApp {p q ty co ty' co' : Nat} {w v : List Nat} (hd : 0 < d) (h : phr σ p w ty co) (h' : phr σ q v ty' co') (hpq : p ≠ q) (hpq1 : p ≠ q + 1) (hqp1 : q ≠ p + 1) :
    ∃ σ', am_to cd_t cs d 84 0 (am_ent 3 [.ref p, .ref q]) [] σ top sl (.inl none, σ', top, sl) ∧ phr σ' p ((w ++ v).take 25) ty co ∧ ∀ x, x ≠ p → x ≠ p + 1 → σ' x = σ x := by
  obtain ⟨f, h1, h2, h3, h4⟩ := h
  obtain ⟨f', g1, g2, g3, g4⟩ := h'
  rw [take25_app h3]
  have hn : min v.length (25 - w.length) ≤ v.length := Nat.min_le_left _ _
  have hn2 : min v.length (25 - w.length) ≤ 25 - w.length := Nat.min_le_right _ _
  have hmin : am_bi 1003 [.int (ii v.length), .int (ii (25 - w.length))] σ = some (some (.int (ii (min v.length (25 - w.length)))), σ) := by
    show some (some (Value.int (if ii (25 - w.length) < ii v.length then ii (25 - w.length) else ii v.length)), σ) = _
    by_cases hl : 25 - w.length < v.length
    · rw [if_pos ((ii_lt (by omega) (by omega)).mpr hl), Nat.min_eq_right (by omega)]
    · rw [if_neg (fun z => hl ((ii_lt (by omega) (by omega)).mp z)), Nat.min_eq_left (by omega)]
  generalize min v.length (25 - w.length) = n at hn hn2 hmin
  have ln : (w ++ v.take n).length = w.length + n := by rw [List.length_append, List.length_take]; omega
  obtain ⟨s1, hs1⟩ : ∃ s, s = am_up σ (p + 1) (.inl (.char, 25, .inl (va_cpy f' f 0 w.length n))) := ⟨_, rfl⟩
  have hbi : am_bi 1004 [.ref (q + 1), .int (ii 0), .ref (p + 1), .int (ii w.length), .int (ii n)] σ = some (none, s1) := by
    rw [hs1]
    exact bi_copy g2 h2 (by omega) (by omega) (by decide) (by decide)
  have e1 : s1 p = _ := (hs1 ▸ am_up_ne _ _ (by omega)).trans h1
  have e3 : s1 (p + 1) = _ := hs1 ▸ am_up_self _ _ _
  refine ⟨am_up s1 p (.inr (.inl (8, [.ref (p + 1), .int (ii (w.length + n)), .int (ii ty), .int (ii co)]))), ?_, ⟨va_cpy f' f 0 w.length n, by rw [am_up_self, ln], by rw [am_up_ne _ _ (by omega), e3], by omega, fun j hj => ?_⟩, fun x x1 x2 => by rw [am_up_ne _ _ x1, hs1, am_up_ne _ _ x2]⟩
  · refine x_n cd_i84_0 rfl rfl ?_
    refine x_getf cd_i84_1 g1 rfl rfl ?_
    refine x_n cd_i84_4 rfl rfl ?_
    refine x_getf cd_i84_5 h1 rfl rfl ?_
    refine x_len cd_i84_8 h2 ?_
    refine x_n cd_i84_9 rfl rfl ?_
    refine x_getf cd_i84_10 h1 rfl rfl ?_
    refine x_isub cd_i84_13 (ii_sub h3) ?_
    refine x_callb (as := [.int (ii v.length), .int (ii (25 - w.length))]) cd_i84_14 hd rfl rfl rfl rfl hmin ?_
    refine x_n cd_i84_17 rfl rfl ?_
    try dsimp only [List.set]
    refine x_n cd_i84_18 rfl rfl ?_
    show am_to cd_t _ _ 84 19 _ _ _ _ _ _
    refine x_getf cd_i84_19 g1 rfl rfl ?_
    refine x_ic cd_i84_22 (z := ii 0) rfl ?_
    refine x_n cd_i84_23 rfl rfl ?_
    show am_to cd_t _ _ 84 24 _ _ _ _ _ _
    refine x_getf cd_i84_24 h1 rfl rfl ?_
    refine x_n cd_i84_27 rfl rfl ?_
    refine x_getf cd_i84_28 h1 rfl rfl ?_
    refine x_n cd_i84_31 rfl rfl ?_
    refine x_callb (as := [.ref (q + 1), .int (ii 0), .ref (p + 1), .int (ii w.length), .int (ii n)]) cd_i84_32 hd rfl rfl rfl rfl hbi ?_
    refine x_n cd_i84_35 rfl rfl ?_
    refine x_n cd_i84_36 rfl rfl ?_
    show am_to cd_t _ _ 84 37 _ _ _ _ _ _
    refine x_getf cd_i84_37 e1 rfl rfl ?_
    refine x_n cd_i84_40 rfl rfl ?_
    refine x_iadd cd_i84_41 (ii_add _ _) ?_
    refine x_putf cd_i84_42 (fs' := [.ref (p + 1), .int (ii (w.length + n)), .int (ii ty), .int (ii co)]) e1 rfl rfl rfl ?_
    exact x_end cd_i84_45 rfl rfl rfl
  · rw [ln] at hj
    show (if w.length ≤ j ∧ j < w.length + n then f' (0 + (j - w.length)) else f j) = _
    rw [List.getD_eq_getElem?_getD]
    by_cases hjw : j < w.length
    · rw [if_neg (by omega), List.getElem?_append_left hjw, ← List.getD_eq_getElem?_getD]
      exact h4 j hjw
    · rw [if_pos (by omega), List.getElem?_append_right (by omega), List.getElem?_take, if_pos (by omega), ← List.getD_eq_getElem?_getD, show 0 + (j - w.length) = j - w.length by omega]
      exact g4 _ (by omega)
end PI
