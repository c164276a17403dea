/-! the desk as it is made: b the desk, b + 1 the buffer, b + 3 the catalog, b + 6 the scope, b + 9 and b + 10 the readers, b + 11 the completer, b + 12 its shelves' array, b + 13 its proposals' array, b + 14 its draft, from b + 16 on the shelves -/
section CD
variable {cs : Nat → Value} {d : Nat} {σ : am_H} {sl : Nat}
theorem c_dr {p B C : Nat} (hd : 0 < d) {top : Nat} (hp : σ p = some (.inr (.inl (5, [.null, .null])))) :
    am_to cd_t cs d 5 0 (am_ent 3 [.ref p, .ref B, .ref C]) [] σ top sl (.inl none, am_up (am_up σ p (.inr (.inl (5, [.ref B, .null])))) p (.inr (.inl (5, [.ref B, .ref C]))), top, sl) := by
  refine x_n cd_i5_0 rfl rfl ?_
  refine x_obj cd_i5_1 (by omega) rfl ?_
  refine x_n cd_i5_4 rfl rfl ?_
  refine x_n cd_i5_5 rfl rfl ?_
  show am_to cd_t _ _ 5 6 _ _ _ _ _ _
  refine x_putf cd_i5_6 hp rfl rfl rfl ?_
  refine x_n cd_i5_9 rfl rfl ?_
  refine x_n cd_i5_10 rfl rfl ?_
  show am_to cd_t _ _ 5 11 _ _ _ _ _ _
  refine x_putf cd_i5_11 (am_up_self _ _ _) rfl rfl rfl ?_
  exact x_end cd_i5_14 rfl rfl rfl
theorem c_er {p B C S : Nat} (hd : 0 < d) {top : Nat} (hp : σ p = some (.inr (.inl (6, [.null, .null, .null, .int 0])))) :
    am_to cd_t cs d 6 0 (am_ent 4 [.ref p, .ref B, .ref C, .ref S]) [] σ top sl (.inl none, am_up (am_up (am_up σ p (.inr (.inl (6, [.ref B, .null, .null, .int 0])))) p (.inr (.inl (6, [.ref B, .ref C, .null, .int 0])))) p (.inr (.inl (6, [.ref B, .ref C, .ref S, .int 0]))), top, sl) := by
  refine x_n cd_i6_0 rfl rfl ?_
  refine x_obj cd_i6_1 (by omega) rfl ?_
  refine x_n cd_i6_4 rfl rfl ?_
  refine x_n cd_i6_5 rfl rfl ?_
  show am_to cd_t _ _ 6 6 _ _ _ _ _ _
  refine x_putf cd_i6_6 hp rfl rfl rfl ?_
  refine x_n cd_i6_9 rfl rfl ?_
  refine x_n cd_i6_10 rfl rfl ?_
  show am_to cd_t _ _ 6 11 _ _ _ _ _ _
  refine x_putf cd_i6_11 (am_up_self _ _ _) rfl rfl rfl ?_
  refine x_n cd_i6_14 rfl rfl ?_
  refine x_n cd_i6_15 rfl rfl ?_
  show am_to cd_t _ _ 6 16 _ _ _ _ _ _
  refine x_putf cd_i6_16 (am_up_self _ _ _) rfl rfl rfl ?_
  exact x_end cd_i6_19 rfl rfl rfl
/-- the desk as it is made -/
def dk0 (σ : am_H) (b : Nat) : Prop :=
  σ b = some (.inr (.inl (0, [.ref (b + 1), .ref (b + 3), .ref (b + 6), .ref (b + 9), .ref (b + 10), .ref (b + 11), .int 0]))) ∧ σ (b + 1) = some (.inr (.inl (1, [.ref (b + 2), .int 0, .int 0]))) ∧ σ (b + 2) = some (.inl (.char, 120, .inl fun _ => 0)) ∧
  σ (b + 3) = some (.inr (.inl (2, [.ref (b + 4), .ref (b + 5), .int (-1)]))) ∧ σ (b + 4) = some (.inl (.object "ChainDesk$Declaration", 10, .inr (.inr (.inr (.inr fun _ => none))))) ∧ (∃ f, σ (b + 5) = some (.inl (.int, 13, .inl f)) ∧ f 0 = 3 ∧ ∀ i, 0 < i → i < 13 → f i = c_bit i) ∧
  σ (b + 6) = some (.inr (.inl (9, [.ref (b + 7), .ref (b + 8), .int 0]))) ∧ σ (b + 7) = some (.inl (.int, 5, .inl fun _ => 0)) ∧ σ (b + 8) = some (.inl (.int, 5, .inl fun _ => 0)) ∧ σ (b + 9) = some (.inr (.inl (5, [.ref (b + 1), .ref (b + 3)]))) ∧ σ (b + 10) = some (.inr (.inl (6, [.ref (b + 1), .ref (b + 3), .ref (b + 6), .int 0]))) ∧
  σ (b + 11) = some (.inr (.inl (3, [.ref (b + 3), .ref (b + 6), .ref (b + 12), .ref (b + 13), .ref (b + 14), .ref (b + 16), .int 0]))) ∧ (∃ g : Nat → Option Nat, σ (b + 12) = some (.inl (.object "ChainDesk$Shelf", 4, .inr (.inr (.inr (.inr g))))) ∧ ∀ i, i < 4 → g i = some (b + 16 + 18 * i)) ∧
  σ (b + 13) = some (.inl (.object "ChainDesk$Phrase", 10, .inr (.inr (.inr (.inr fun _ => none))))) ∧ σ (b + 14) = some (.inr (.inl (8, [.ref (b + 15), .int 0, .int 0, .int 0]))) ∧ σ (b + 15) = some (.inl (.char, 25, .inl fun _ => 0)) ∧ ∀ i, i < 4 → sh0 σ (b + 16 + 18 * i) (b + 16 + 18 * i + 1)
theorem c_desk {b : Nat} (hd : 3 < d) (hp : σ b = some (.inr (.inl (0, [.null, .null, .null, .null, .null, .null, .int 0])))) :
    ∃ σ' : am_H, am_to cd_t cs d 1 0 (am_ent 1 [.ref b]) [] σ (b + 1) sl (.inl none, σ', b + 88, sl + 1186) ∧ dk0 σ' b ∧ ∀ q, q < b → σ' q = σ q := by
  have hB := c_buffer (cs := cs) (d := d - 1) (σ := am_up σ (b + 1) (.inr (.inl (1, [.null, .int 0, .int 0])))) (top := b + 2) (sl := sl + 3) (p := b + 1) (by omega) (am_up_self _ _ _) (by omega)
  obtain ⟨s1, hs1⟩ : ∃ s, s = am_up (am_up (am_up (am_up σ (b + 1) (.inr (.inl (1, [.null, .int 0, .int 0])))) (b + 2) (.inl (.char, 120, .inl fun _ => 0))) (b + 1) (.inr (.inl (1, [.ref (b + 2), .int 0, .int 0])))) b (.inr (.inl (0, [.ref (b + 1), .null, .null, .null, .null, .null, .int 0]))) := ⟨_, rfl⟩
  have q1 : s1 (b + 1) = some (.inr (.inl (1, [.ref (b + 2), .int 0, .int 0]))) := by rw [hs1, am_up_ne _ _ (by omega), am_up_self]
  have q2 : s1 (b + 2) = some (.inl (.char, 120, .inl fun _ => 0)) := by rw [hs1, am_up_ne _ _ (by omega), am_up_ne _ _ (by omega), am_up_self]
  have q0 : s1 b = some (.inr (.inl (0, [.ref (b + 1), .null, .null, .null, .null, .null, .int 0]))) := by rw [hs1, am_up_self]
  have f1 : ∀ q, q < b → s1 q = σ q := fun q h => by rw [hs1, am_up_ne _ _ (by omega), am_up_ne _ _ (by omega), am_up_ne _ _ (by omega), am_up_ne _ _ (by omega)]
  obtain ⟨s2, fm, hC, c1, c2, c3, c4, c5, c6⟩ := c_catalog (cs := cs) (d := d - 1) (σ := am_up s1 (b + 3) (.inr (.inl (2, [.null, .null, .int 0])))) (top := b + 4) (sl := sl + 3 + 120 + 3) (C := b + 3) (by omega) (am_up_self _ _ _) (by omega)
  obtain ⟨s3, hs3⟩ : ∃ s, s = am_up s2 b (.inr (.inl (0, [.ref (b + 1), .ref (b + 3), .null, .null, .null, .null, .int 0]))) := ⟨_, rfl⟩
  obtain ⟨s4, hS, d1, d2, d3, d4⟩ := c_scope (cs := cs) (d := d - 1) (σ := am_up s3 (b + 6) (.inr (.inl (9, [.null, .null, .int 0])))) (top := b + 7) (sl := sl + 3 + 120 + 3 + 23 + 3) (p := b + 6) (by omega) (am_up_self _ _ _) (by omega)
  obtain ⟨s5, hs5⟩ : ∃ s, s = am_up s4 b (.inr (.inl (0, [.ref (b + 1), .ref (b + 3), .ref (b + 6), .null, .null, .null, .int 0]))) := ⟨_, rfl⟩
  have hDR := c_dr (cs := cs) (d := d - 1) (σ := am_up s5 (b + 9) (.inr (.inl (5, [.null, .null])))) (sl := sl + 3 + 120 + 3 + 23 + 3 + 10 + 2) (p := b + 9) (B := b + 1) (C := b + 3) (by omega) (top := b + 10) (am_up_self _ _ _)
  obtain ⟨s6, hs6⟩ : ∃ s, s = am_up (am_up (am_up (am_up s5 (b + 9) (.inr (.inl (5, [.null, .null])))) (b + 9) (.inr (.inl (5, [.ref (b + 1), .null])))) (b + 9) (.inr (.inl (5, [.ref (b + 1), .ref (b + 3)])))) b (.inr (.inl (0, [.ref (b + 1), .ref (b + 3), .ref (b + 6), .ref (b + 9), .null, .null, .int 0]))) := ⟨_, rfl⟩
  have hER := c_er (cs := cs) (d := d - 1) (σ := am_up s6 (b + 10) (.inr (.inl (6, [.null, .null, .null, .int 0])))) (sl := sl + 3 + 120 + 3 + 23 + 3 + 10 + 2 + 4) (p := b + 10) (B := b + 1) (C := b + 3) (S := b + 6) (by omega) (top := b + 11) (am_up_self _ _ _)
  obtain ⟨s7, hs7⟩ : ∃ s, s = am_up (am_up (am_up (am_up (am_up s6 (b + 10) (.inr (.inl (6, [.null, .null, .null, .int 0])))) (b + 10) (.inr (.inl (6, [.ref (b + 1), .null, .null, .int 0])))) (b + 10) (.inr (.inl (6, [.ref (b + 1), .ref (b + 3), .null, .int 0])))) (b + 10) (.inr (.inl (6, [.ref (b + 1), .ref (b + 3), .ref (b + 6), .int 0])))) b (.inr (.inl (0, [.ref (b + 1), .ref (b + 3), .ref (b + 6), .ref (b + 9), .ref (b + 10), .null, .int 0]))) := ⟨_, rfl⟩
  obtain ⟨s8, gm, hK, e1, e2, e3, e4, e5, e6, e7, e8⟩ := c_comp (cs := cs) (d := d - 1) (σ := am_up s7 (b + 11) (.inr (.inl (3, [.null, .null, .null, .null, .null, .null, .int 0])))) (top := b + 12) (sl := sl + 3 + 120 + 3 + 23 + 3 + 10 + 2 + 4 + 7) (K := b + 11) (C := b + 3) (S := b + 6) (by omega) (am_up_self _ _ _) (by omega)
  have g7 : ∀ q, q < b + 9 → q ≠ b → s7 q = s4 q := fun q h1 h2 => by
    rw [hs7, am_up_ne _ _ h2, am_up_ne _ _ (by omega), am_up_ne _ _ (by omega), am_up_ne _ _ (by omega), am_up_ne _ _ (by omega), hs6, am_up_ne _ _ h2, am_up_ne _ _ (by omega), am_up_ne _ _ (by omega), am_up_ne _ _ (by omega), hs5, am_up_ne _ _ h2]
  have g8 : ∀ q, q < b + 11 → s8 q = s7 q := fun q h1 => by rw [e8 q (by omega) (by omega), am_up_ne _ _ (by omega)]
  have g4 : ∀ q, q < b + 6 → q ≠ b → s4 q = s2 q := fun q h1 h2 => by rw [d4 q (by omega) (by omega), am_up_ne _ _ (by omega), hs3, am_up_ne _ _ h2]
  have g2 : ∀ q, q < b + 3 → s2 q = s1 q := fun q h1 => by rw [c6 q (by omega) (by omega), am_up_ne _ _ (by omega)]
  refine ⟨am_up (am_up s8 b (.inr (.inl (0, [.ref (b + 1), .ref (b + 3), .ref (b + 6), .ref (b + 9), .ref (b + 10), .ref (b + 11), .int 0])))) b (.inr (.inl (0, [.ref (b + 1), .ref (b + 3), .ref (b + 6), .ref (b + 9), .ref (b + 10), .ref (b + 11), .int 0]))), ?_, ?_, fun q h => ?_⟩
  · refine x_n cd_i1_0 rfl rfl ?_
    refine x_obj cd_i1_1 (by omega) rfl ?_
    refine x_n cd_i1_4 rfl rfl ?_
    show am_to cd_t _ _ 1 5 _ _ _ _ _ _
    refine x_new cd_i1_5 rfl ?_
    refine x_n cd_i1_8 rfl rfl ?_
    show am_to cd_t _ _ 1 9 _ _ _ _ _ _
    refine x_calli (as' := []) (r := none) cd_i1_9 (by omega) rfl rfl rfl rfl rfl rfl hB ?_
    refine x_putf cd_i1_12 (fs' := [.ref (b + 1), .null, .null, .null, .null, .null, .int 0]) (by rw [am_up_ne _ _ (by omega), am_up_ne _ _ (by omega), am_up_ne _ _ (by omega)]; exact hp) rfl rfl rfl ?_
    refine hs1 ▸ ?_
    refine x_n cd_i1_15 rfl rfl ?_
    show am_to cd_t _ _ 1 16 _ _ _ _ _ _
    refine x_new cd_i1_16 rfl ?_
    refine x_n cd_i1_19 rfl rfl ?_
    show am_to cd_t _ _ 1 20 _ _ _ _ _ _
    refine x_calli (as' := []) (r := none) cd_i1_20 (by omega) rfl rfl rfl rfl rfl rfl hC ?_
    refine x_putf cd_i1_23 (fs' := [.ref (b + 1), .ref (b + 3), .null, .null, .null, .null, .int 0]) (by rw [c6 _ (by omega) (by omega), am_up_ne _ _ (by omega)]; exact q0) rfl rfl rfl ?_
    refine hs3 ▸ ?_
    refine x_n cd_i1_26 rfl rfl ?_
    show am_to cd_t _ _ 1 27 _ _ _ _ _ _
    refine x_new cd_i1_27 rfl ?_
    refine x_n cd_i1_30 rfl rfl ?_
    show am_to cd_t _ _ 1 31 _ _ _ _ _ _
    refine x_calli (as' := []) (r := none) cd_i1_31 (by omega) rfl rfl rfl rfl rfl rfl hS ?_
    refine x_putf cd_i1_34 (fs' := [.ref (b + 1), .ref (b + 3), .ref (b + 6), .null, .null, .null, .int 0]) (by rw [d4 _ (by omega) (by omega), am_up_ne _ _ (by omega), hs3]; exact am_up_self _ _ _) rfl rfl rfl ?_
    refine hs5 ▸ ?_
    refine x_n cd_i1_37 rfl rfl ?_
    show am_to cd_t _ _ 1 38 _ _ _ _ _ _
    refine x_new cd_i1_38 rfl ?_
    have p1 : am_up s5 (b + 9) (.inr (.inl (5, [.null, .null]))) b = some (.inr (.inl (0, [.ref (b + 1), .ref (b + 3), .ref (b + 6), .null, .null, .null, .int 0]))) := by rw [am_up_ne _ _ (by omega), hs5, am_up_self]
    refine x_n cd_i1_41 rfl rfl ?_
    refine x_n cd_i1_42 rfl rfl ?_
    show am_to cd_t _ _ 1 43 _ _ _ _ _ _
    refine x_getf cd_i1_43 p1 rfl rfl ?_
    refine x_n cd_i1_46 rfl rfl ?_
    show am_to cd_t _ _ 1 47 _ _ _ _ _ _
    refine x_getf cd_i1_47 p1 rfl rfl ?_
    refine x_calli (as' := [.ref (b + 1), .ref (b + 3)]) (r := none) cd_i1_50 (by omega) rfl rfl rfl rfl rfl rfl hDR ?_
    refine x_putf cd_i1_53 (fs' := [.ref (b + 1), .ref (b + 3), .ref (b + 6), .ref (b + 9), .null, .null, .int 0]) (by rw [am_up_ne _ _ (by omega), am_up_ne _ _ (by omega)]; exact p1) rfl rfl rfl ?_
    refine hs6 ▸ ?_
    refine x_n cd_i1_56 rfl rfl ?_
    show am_to cd_t _ _ 1 57 _ _ _ _ _ _
    refine x_new cd_i1_57 rfl ?_
    have p2 : am_up s6 (b + 10) (.inr (.inl (6, [.null, .null, .null, .int 0]))) b = some (.inr (.inl (0, [.ref (b + 1), .ref (b + 3), .ref (b + 6), .ref (b + 9), .null, .null, .int 0]))) := by rw [am_up_ne _ _ (by omega), hs6, am_up_self]
    refine x_n cd_i1_60 rfl rfl ?_
    refine x_n cd_i1_61 rfl rfl ?_
    show am_to cd_t _ _ 1 62 _ _ _ _ _ _
    refine x_getf cd_i1_62 p2 rfl rfl ?_
    refine x_n cd_i1_65 rfl rfl ?_
    show am_to cd_t _ _ 1 66 _ _ _ _ _ _
    refine x_getf cd_i1_66 p2 rfl rfl ?_
    refine x_n cd_i1_69 rfl rfl ?_
    show am_to cd_t _ _ 1 70 _ _ _ _ _ _
    refine x_getf cd_i1_70 p2 rfl rfl ?_
    refine x_calli (as' := [.ref (b + 1), .ref (b + 3), .ref (b + 6)]) (r := none) cd_i1_73 (by omega) rfl rfl rfl rfl rfl rfl hER ?_
    refine x_putf cd_i1_76 (fs' := [.ref (b + 1), .ref (b + 3), .ref (b + 6), .ref (b + 9), .ref (b + 10), .null, .int 0]) (by rw [am_up_ne _ _ (by omega), am_up_ne _ _ (by omega), am_up_ne _ _ (by omega)]; exact p2) rfl rfl rfl ?_
    refine hs7 ▸ ?_
    refine x_n cd_i1_79 rfl rfl ?_
    show am_to cd_t _ _ 1 80 _ _ _ _ _ _
    refine x_new cd_i1_80 rfl ?_
    have p3 : am_up s7 (b + 11) (.inr (.inl (3, [.null, .null, .null, .null, .null, .null, .int 0]))) b = some (.inr (.inl (0, [.ref (b + 1), .ref (b + 3), .ref (b + 6), .ref (b + 9), .ref (b + 10), .null, .int 0]))) := by rw [am_up_ne _ _ (by omega), hs7, am_up_self]
    refine x_n cd_i1_83 rfl rfl ?_
    refine x_n cd_i1_84 rfl rfl ?_
    show am_to cd_t _ _ 1 85 _ _ _ _ _ _
    refine x_getf cd_i1_85 p3 rfl rfl ?_
    refine x_n cd_i1_88 rfl rfl ?_
    show am_to cd_t _ _ 1 89 _ _ _ _ _ _
    refine x_getf cd_i1_89 p3 rfl rfl ?_
    refine x_calli (as' := [.ref (b + 3), .ref (b + 6)]) (r := none) cd_i1_92 (by omega) rfl rfl rfl rfl rfl rfl hK ?_
    refine x_putf cd_i1_95 (fs' := [.ref (b + 1), .ref (b + 3), .ref (b + 6), .ref (b + 9), .ref (b + 10), .ref (b + 11), .int 0]) (by rw [e8 _ (by omega) (by omega)]; exact p3) rfl rfl rfl ?_
    refine x_n cd_i1_98 rfl rfl ?_
    refine x_ic cd_i1_99 (z := ii 0) rfl ?_
    show am_to cd_t _ _ 1 100 _ _ _ _ _ _
    refine x_putf cd_i1_100 (fs' := [.ref (b + 1), .ref (b + 3), .ref (b + 6), .ref (b + 9), .ref (b + 10), .ref (b + 11), .int 0]) (am_up_self _ _ _) rfl rfl rfl ?_
    exact x_end cd_i1_103 rfl rfl rfl
  · have hh : ∀ q, q ≠ b → am_up (am_up s8 b (.inr (.inl (0, [.ref (b + 1), .ref (b + 3), .ref (b + 6), .ref (b + 9), .ref (b + 10), .ref (b + 11), .int 0])))) b (.inr (.inl (0, [.ref (b + 1), .ref (b + 3), .ref (b + 6), .ref (b + 9), .ref (b + 10), .ref (b + 11), .int 0]))) q = s8 q := fun q h => by rw [am_up_ne _ _ h, am_up_ne _ _ h]
    refine ⟨am_up_self _ _ _, ?_, ?_, ?_, ?_, ⟨fm, ?_, c4, c5⟩, ?_, ?_, ?_, ?_, ?_, ?_, ⟨gm, ?_, e3⟩, ?_, ?_, ?_, fun i hi => ?_⟩
    · rw [hh _ (by omega), g8 _ (by omega), g7 _ (by omega) (by omega), g4 _ (by omega) (by omega), g2 _ (by omega)]; exact q1
    · rw [hh _ (by omega), g8 _ (by omega), g7 _ (by omega) (by omega), g4 _ (by omega) (by omega), g2 _ (by omega)]; exact q2
    · rw [hh _ (by omega), g8 _ (by omega), g7 _ (by omega) (by omega), g4 _ (by omega) (by omega)]; exact c1
    · rw [hh _ (by omega), g8 _ (by omega), g7 _ (by omega) (by omega), g4 _ (by omega) (by omega)]; exact c2
    · rw [hh _ (by omega), g8 _ (by omega), g7 _ (by omega) (by omega), g4 _ (by omega) (by omega)]; exact c3
    · rw [hh _ (by omega), g8 _ (by omega), g7 _ (by omega) (by omega)]; exact d1
    · rw [hh _ (by omega), g8 _ (by omega), g7 _ (by omega) (by omega)]; exact d2
    · rw [hh _ (by omega), g8 _ (by omega), g7 _ (by omega) (by omega)]; exact d3
    · rw [hh _ (by omega), g8 _ (by omega), hs7, am_up_ne _ _ (by omega), am_up_ne _ _ (by omega), am_up_ne _ _ (by omega), am_up_ne _ _ (by omega), am_up_ne _ _ (by omega), hs6, am_up_ne _ _ (by omega), am_up_self]
    · rw [hh _ (by omega), g8 _ (by omega), hs7, am_up_ne _ _ (by omega), am_up_self]
    · rw [hh _ (by omega)]; exact e1
    · rw [hh _ (by omega)]; exact e2
    · rw [hh _ (by omega)]; exact e5
    · rw [hh _ (by omega)]; exact e6
    · rw [hh _ (by omega)]; exact e7
    · exact (e4 i hi).kept (hh _ (by omega)) (fun q h1 h2 => hh _ (by omega))
  · rw [am_up_ne _ _ (by omega), am_up_ne _ _ (by omega), g8 _ (by omega), g7 _ (by omega) (by omega), g4 _ (by omega) (by omega), g2 _ (by omega), f1 q h]
end CD
