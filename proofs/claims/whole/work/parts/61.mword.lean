section MW
variable {cs : Nat → Value} {d m top sl : Nat} {σ : am_H} {a : Nat → Nat → Int32} {txt : List Nat}
theorem sp_step {v b : Nat} (hb : 97 ≤ b) : ii 27 * ii v + ii b - ii 96 = ii (v * 27 + (b - 96)) := by
  rw [ii_mul, ii_add, ii_sub (by omega)]
  congr 1
  omega
theorem m_spell {x y z w : Nat} (hx : 97 ≤ x ∧ x ≤ 122) (hy : 97 ≤ y ∧ y ≤ 122) (hz : 97 ≤ z ∧ z ≤ 122) (hw : w = 0 ∨ (97 ≤ w ∧ w ≤ 122)) :
    am_to cd_t cs d 116 0 (am_ent 5 [.int (ii x), .int (ii y), .int (ii z), .int (ii w)]) [] σ top sl (.inl (some (.int (ii (if w = 0 then n27 [x, y, z] else n27 [x, y, z, w])))), σ, top, sl) := by
  have pos : ∀ b : Nat, 97 ≤ b ∧ b ≤ 122 → ¬ am_cp .le (ii b) 0 := fun b hb h => by
    have := (ii_le (b := 0) (by omega) (by decide)).mp h
    omega
  refine x_n cd_i116_0 rfl rfl ?_
  refine x_bi cd_i116_1 (z := ii 96) (by decide) ?_
  show am_to cd_t _ _ 116 3 _ _ _ _ _ _
  refine x_isub cd_i116_3 (z := ii (0 * 27 + (x - 96))) (by rw [ii_sub (by omega)]; congr 1; omega) ?_
  refine x_n cd_i116_4 rfl rfl ?_
  try dsimp only [List.set]
  refine x_n cd_i116_6 rfl rfl ?_
  show am_to cd_t _ _ 116 7 _ _ _ _ _ _
  refine x_if_f cd_i116_7 (pos y hy) ?_
  refine x_bi cd_i116_10 (z := ii 27) (by decide) ?_
  refine x_n cd_i116_12 rfl rfl ?_
  refine x_imul cd_i116_14 rfl ?_
  refine x_n cd_i116_15 rfl rfl ?_
  refine x_iadd cd_i116_16 rfl ?_
  refine x_bi cd_i116_17 (z := ii 96) (by decide) ?_
  show am_to cd_t _ _ 116 19 _ _ _ _ _ _
  refine x_isub cd_i116_19 (sp_step hy.1) ?_
  refine x_n cd_i116_20 rfl rfl ?_
  refine x_n cd_i116_25 rfl rfl ?_
  try dsimp only [List.set]
  refine x_n cd_i116_27 rfl rfl ?_
  show am_to cd_t _ _ 116 28 _ _ _ _ _ _
  refine x_if_f cd_i116_28 (pos z hz) ?_
  refine x_bi cd_i116_31 (z := ii 27) (by decide) ?_
  refine x_n cd_i116_33 rfl rfl ?_
  refine x_imul cd_i116_35 rfl ?_
  refine x_n cd_i116_36 rfl rfl ?_
  refine x_iadd cd_i116_37 rfl ?_
  refine x_bi cd_i116_38 (z := ii 96) (by decide) ?_
  show am_to cd_t _ _ 116 40 _ _ _ _ _ _
  refine x_isub cd_i116_40 (sp_step hz.1) ?_
  refine x_n cd_i116_41 rfl rfl ?_
  refine x_n cd_i116_46 rfl rfl ?_
  try dsimp only [List.set]
  refine x_n cd_i116_48 rfl rfl ?_
  show am_to cd_t _ _ 116 49 _ _ _ _ _ _
  rcases hw with rfl | hw
  · rw [if_pos rfl]
    refine x_if_t cd_i116_49 (show ii 0 ≤ 0 by decide) ?_
    refine x_n cd_i116_65 rfl rfl ?_
    show am_to cd_t _ _ 116 67 _ _ _ _ _ _
    exact x_end cd_i116_67 rfl rfl rfl
  · rw [if_neg (by omega)]
    refine x_if_f cd_i116_49 (pos w hw) ?_
    refine x_bi cd_i116_52 (z := ii 27) (by decide) ?_
    refine x_n cd_i116_54 rfl rfl ?_
    refine x_imul cd_i116_56 rfl ?_
    refine x_n cd_i116_57 rfl rfl ?_
    refine x_iadd cd_i116_58 rfl ?_
    refine x_bi cd_i116_59 (z := ii 96) (by decide) ?_
    show am_to cd_t _ _ 116 61 _ _ _ _ _ _
    refine x_isub cd_i116_61 (sp_step hw.1) ?_
    refine x_n cd_i116_62 rfl rfl ?_
    show am_to cd_t _ _ 116 67 _ _ _ _ _ _
    exact x_end cd_i116_67 rfl rfl rfl
/-- the numbers of the words that are no names -/
def isR27 (x : Nat) : Bool := x == n27 [110, 101, 119] || x == n27 [105, 110, 116] || x == n27 [108, 111, 110, 103] || x == n27 [98, 111, 111, 108]
theorem m_isWord {x : Nat} (hd : 0 < d) (hx : x < 2147483648) : am_to cd_t cs d 118 0 (am_ent 1 [.int (ii x)]) [] σ top sl (.inl (some (.int (b2i (isR27 x)))), σ, top, sl) := by
  have yes : isR27 x = true → am_to cd_t cs d 118 58 (am_ent 1 [.int (ii x)]) [] σ top sl (.inl (some (.int (b2i (isR27 x)))), σ, top, sl) := by
    intro h
    rw [h]
    refine x_ic cd_i118_58 (z := ii 1) rfl ?_
    refine x_n cd_i118_59 rfl rfl ?_
    show am_to cd_t _ _ 118 63 _ _ _ _ _ _
    exact x_end cd_i118_63 rfl rfl rfl
  refine x_n cd_i118_0 rfl rfl ?_
  refine x_bi cd_i118_1 (z := ii 110) (by decide) ?_
  refine x_bi cd_i118_3 (z := ii 101) (by decide) ?_
  refine x_bi cd_i118_5 (z := ii 119) (by decide) ?_
  refine x_ic cd_i118_7 (z := ii 0) rfl ?_
  show am_to cd_t _ _ 118 8 _ _ _ _ _ _
  refine x_calls (as := [.int (ii 110), .int (ii 101), .int (ii 119), .int (ii 0)]) cd_i118_8 hd rfl rfl rfl rfl rfl rfl (m_spell (by decide) (by decide) (by decide) (Or.inl rfl)) ?_
  rw [if_pos rfl]
  refine x_icmp cd_i118_11 (fun z => yes ?_) (fun z1 => ?_)
  · have := (ii_eq hx (by decide)).mp (show ii x = ii (n27 [110, 101, 119]) from z)
    unfold isR27
    rw [this]
    rfl
  · have n1 : (x == n27 [110, 101, 119]) = false := beq_eq_false_iff_ne.mpr (fun e => z1 (by rw [e]; rfl))
    refine x_n cd_i118_14 rfl rfl ?_
    refine x_bi cd_i118_15 (z := ii 105) (by decide) ?_
    refine x_bi cd_i118_17 (z := ii 110) (by decide) ?_
    refine x_bi cd_i118_19 (z := ii 116) (by decide) ?_
    refine x_ic cd_i118_21 (z := ii 0) rfl ?_
    show am_to cd_t _ _ 118 22 _ _ _ _ _ _
    refine x_calls (as := [.int (ii 105), .int (ii 110), .int (ii 116), .int (ii 0)]) cd_i118_22 hd rfl rfl rfl rfl rfl rfl (m_spell (by decide) (by decide) (by decide) (Or.inl rfl)) ?_
    rw [if_pos rfl]
    refine x_icmp cd_i118_25 (fun z => yes ?_) (fun z2 => ?_)
    · have := (ii_eq hx (by decide)).mp (show ii x = ii (n27 [105, 110, 116]) from z)
      unfold isR27
      rw [this]
      rfl
    · have n2 : (x == n27 [105, 110, 116]) = false := beq_eq_false_iff_ne.mpr (fun e => z2 (by rw [e]; rfl))
      refine x_n cd_i118_28 rfl rfl ?_
      refine x_bi cd_i118_29 (z := ii 108) (by decide) ?_
      refine x_bi cd_i118_31 (z := ii 111) (by decide) ?_
      refine x_bi cd_i118_33 (z := ii 110) (by decide) ?_
      refine x_bi cd_i118_35 (z := ii 103) (by decide) ?_
      show am_to cd_t _ _ 118 37 _ _ _ _ _ _
      refine x_calls (as := [.int (ii 108), .int (ii 111), .int (ii 110), .int (ii 103)]) cd_i118_37 hd rfl rfl rfl rfl rfl rfl (m_spell (by decide) (by decide) (by decide) (Or.inr (by decide))) ?_
      rw [if_neg (by decide)]
      refine x_icmp cd_i118_40 (fun z => yes ?_) (fun z3 => ?_)
      · have := (ii_eq hx (by decide)).mp (show ii x = ii (n27 [108, 111, 110, 103]) from z)
        unfold isR27
        rw [this]
        rfl
      · have n3 : (x == n27 [108, 111, 110, 103]) = false := beq_eq_false_iff_ne.mpr (fun e => z3 (by rw [e]; rfl))
        refine x_n cd_i118_43 rfl rfl ?_
        refine x_bi cd_i118_44 (z := ii 98) (by decide) ?_
        refine x_bi cd_i118_46 (z := ii 111) (by decide) ?_
        refine x_bi cd_i118_48 (z := ii 111) (by decide) ?_
        refine x_bi cd_i118_50 (z := ii 108) (by decide) ?_
        show am_to cd_t _ _ 118 52 _ _ _ _ _ _
        refine x_calls (as := [.int (ii 98), .int (ii 111), .int (ii 111), .int (ii 108)]) cd_i118_52 hd rfl rfl rfl rfl rfl rfl (m_spell (by decide) (by decide) (by decide) (Or.inr (by decide))) ?_
        rw [if_neg (by decide)]
        refine x_icmp cd_i118_55 (fun z4 => ?_) (fun z4 => yes ?_)
        · have n4 : (x == n27 [98, 111, 111, 108]) = false := beq_eq_false_iff_ne.mpr (fun e => z4 (by rw [e]))
          unfold isR27
          rw [n1, n2, n3, n4]
          refine x_ic cd_i118_62 (z := ii 0) rfl ?_
          show am_to cd_t _ _ 118 63 _ _ _ _ _ _
          exact x_end cd_i118_63 rfl rfl rfl
        · have := (ii_eq hx (by decide)).mp (Decidable.not_not.mp (show ¬ ¬ ii x = ii (n27 [98, 111, 111, 108]) from z4))
          unfold isR27
          rw [this]
          rfl
end MW
