section WL
variable {cs : Nat → Value} {d b o top sl : Nat} {σ : am_H} {txt : List Nat} {vs : List (List Nat × Nat)} {v : Value}
/-- the law's call of variable: k tells how it ended -/
theorem l_variable {f : Nat → Int64} (hd : 6 < d) (hbo : b + 88 ≤ o) (hot : o < top) (hx : X_o σ b v) (hB : X_buf σ b txt 0) (hT : ∀ c ∈ txt, cok c) (hS : X_sco σ b vs) (hO : σ o = some (.inl (.long, 1, .inr (.inl f)))) :
    ∃ (σ' : am_H) (k : Int32) (g : Nat → Int64) (vs' : List (List Nat × Nat)) (top' sl' : Nat), am_to cd_t cs d 158 0 (am_ent 3 [.ref b, .ref o]) [] σ top sl (.inl (some (.int k)), σ', top', sl') ∧ top ≤ top' ∧ top' ≤ top + 1 ∧ sl' ≤ sl + 6 ∧ X_buf σ' b [] 0 ∧ X_sco σ' b vs' ∧ σ' o = some (.inl (.long, 1, .inr (.inl g))) ∧ (∀ x, x < top → x ≠ b + 1 → x ≠ o → (x < b + 6 ∨ b + 9 ≤ x) → σ' x = σ x) ∧
      ((vs.length = 5 ∧ k = 2 ∧ vs' = vs) ∨ (¬ vs.length = 5 ∧ pVar txt vs = none ∧ k = 1 ∧ vs' = vs) ∨ (¬ vs.length = 5 ∧ ∃ q, pVar txt vs = some q ∧ k = 0 ∧ vs' = vs ++ [q] ∧ g 0 = (ii (vs.length + 1)).toInt64)) := by
  obtain ⟨s1, a1, a2, a3⟩ := x_variable (cs := cs) (d := d - 1) (top := top) (sl := sl) (by omega) hx hB hT hS
  have o1 : s1 o = some (.inl (.long, 1, .inr (.inl f))) := (a2 o (by omega) (by omega)).trans hO
  rcases a3 with ⟨h1, h2, h3⟩ | ⟨h1, h2, h3, h4⟩ | ⟨h1, q, h2, h3, h4⟩
  · refine ⟨am_up s1 top (.inr (.inl (13, []))), 2, f, vs, top + 1, sl + 6, ?_, by omega, by omega, by omega, a1.kept (am_up_ne _ _ (by omega)) (am_up_ne _ _ (by omega)), h2.kept (fun q g1 g2 => am_up_ne _ _ (by omega)), (am_up_ne _ _ (by omega)).trans o1, fun x g0 g1 g2 g3 => (am_up_ne _ _ (by omega)).trans (a2 x g1 g3), Or.inl ⟨h1, rfl, rfl⟩⟩
    refine x_n cd_i158_0 rfl rfl ?_
    refine x_ic cd_i158_1 (z := ii 0) rfl ?_
    refine x_n cd_i158_2 rfl rfl ?_
    show am_to cd_t _ _ 158 3 _ _ _ _ _ _
    refine x_catch (as' := []) (h := 14) cd_i158_3 hx (by omega) rfl rfl rfl rfl rfl rfl h3 (by unfold am_hd; rw [am_up_self]; rfl) ?_
    refine x_n cd_i158_14 rfl rfl ?_
    try dsimp only [List.set]
    refine x_ic cd_i158_15 (z := ii 2) rfl ?_
    show am_to cd_t _ _ 158 16 _ _ _ _ _ _
    exact x_end cd_i158_16 rfl rfl rfl
  · refine ⟨am_up s1 top (.inr (.inl (12, []))), 1, f, vs, top + 1, sl + 6, ?_, by omega, by omega, by omega, a1.kept (am_up_ne _ _ (by omega)) (am_up_ne _ _ (by omega)), h3.kept (fun q g1 g2 => am_up_ne _ _ (by omega)), (am_up_ne _ _ (by omega)).trans o1, fun x g0 g1 g2 g3 => (am_up_ne _ _ (by omega)).trans (a2 x g1 g3), Or.inr (Or.inl ⟨h1, h2, rfl, rfl⟩)⟩
    refine x_n cd_i158_0 rfl rfl ?_
    refine x_ic cd_i158_1 (z := ii 0) rfl ?_
    refine x_n cd_i158_2 rfl rfl ?_
    show am_to cd_t _ _ 158 3 _ _ _ _ _ _
    refine x_catch (as' := []) (h := 11) cd_i158_3 hx (by omega) rfl rfl rfl rfl rfl rfl h4 (by unfold am_hd; rw [am_up_self]; rfl) ?_
    refine x_n cd_i158_11 rfl rfl ?_
    try dsimp only [List.set]
    refine x_ic cd_i158_12 (z := ii 1) rfl ?_
    show am_to cd_t _ _ 158 13 _ _ _ _ _ _
    exact x_end cd_i158_13 rfl rfl rfl
  · refine ⟨am_up s1 o (.inl (.long, 1, .inr (.inl (vp_updL f 0 (ii (vs.length + 1)).toInt64)))), 0, _, vs ++ [q], top, sl, ?_, by omega, by omega, by omega, a1.kept (am_up_ne _ _ (by omega)) (am_up_ne _ _ (by omega)), h3.kept (fun q g1 g2 => am_up_ne _ _ (by omega)), am_up_self _ _ _, fun x g0 g1 g2 g3 => (am_up_ne _ _ g2).trans (a2 x g1 g3), Or.inr (Or.inr ⟨h1, q, h2, rfl, rfl, rfl⟩)⟩
    refine x_n cd_i158_0 rfl rfl ?_
    refine x_ic cd_i158_1 (z := ii 0) rfl ?_
    refine x_n cd_i158_2 rfl rfl ?_
    show am_to cd_t _ _ 158 3 _ _ _ _ _ _
    refine x_callv (as' := []) cd_i158_3 hx (by omega) rfl rfl rfl rfl rfl rfl h4 ?_
    refine x_n cd_i158_6 rfl rfl ?_
    show am_to cd_t _ _ 158 7 _ _ _ _ _ _
    refine x_lastore cd_i158_7 (i := 0) o1 (by decide) (by decide) ?_
    refine x_n cd_i158_8 rfl rfl ?_
    refine x_ic cd_i158_17 (z := ii 0) rfl ?_
    show am_to cd_t _ _ 158 18 _ _ _ _ _ _
    exact x_end cd_i158_18 rfl rfl rfl
end WL
/-! reading letters: the reference -/
section MR
variable {cs : Nat → Value} {d m top sl : Nat} {σ : am_H} {i : Nat → Int32} {a : Nat → Nat → Int32} {txt : List Nat} {p : Nat}
/-- the reference's buffer is read up to p -/
def M_at (i : Nat → Int32) (p : Nat) : Prop := i 3 = ii p
theorem m_look {k : Nat} (hM : mo σ m i a) (hB : M_buf i a txt) (hP : M_at i p) (hT : ∀ c ∈ txt, cok c) (hp : p < 1000) (hk : k < 100) : am_to cd_t cs d 105 0 (am_ent 2 [.ref m, .int (ii k)]) [] σ top sl (.inl (some (.int (ii (txt.getD (p + k) 0)))), σ, top, sl) := by
  obtain ⟨b1, b2, b3⟩ := hB
  have hl := getD_cok hT (p + k)
  refine x_n cd_i105_0 rfl rfl ?_
  show am_to cd_t _ _ 105 1 _ _ _ _ _ _
  refine x_getf cd_i105_1 hM.1 rfl rfl ?_
  rw [show i 3 = ii p from hP]
  refine x_n cd_i105_4 rfl rfl ?_
  show am_to cd_t _ _ 105 5 _ _ _ _ _ _
  refine x_iadd cd_i105_5 (z := ii (p + k)) (ii_add _ _) ?_
  refine x_n cd_i105_6 rfl rfl ?_
  show am_to cd_t _ _ 105 7 _ _ _ _ _ _
  refine x_getf cd_i105_7 hM.1 rfl rfl ?_
  rw [b1]
  have e : ∀ z : Int32, z = ii (txt.getD (p + k) 0) → am_end (cd_rt 105) [.int z] .ireturn = some (.inl (some (.int (ii (txt.getD (p + k) 0))))) := by
    intro z hz
    rw [hz]
    show (if am_fr .char (.int (ii (txt.getD (p + k) 0))) = true then _ else _) = _
    rw [if_pos (by show decide (vp_nar .char (ii (txt.getD (p + k) 0)) = ii (txt.getD (p + k) 0)) = true; exact decide_eq_true (nar_char_ii (by omega)))]
  by_cases hlt : p + k < txt.length
  · refine x_icmp_f cd_i105_10 (fun z => by have := (ii_le (by omega) (by omega)).mp (show ii txt.length ≤ ii (p + k) from z); omega) ?_
    refine x_n cd_i105_13 rfl rfl ?_
    show am_to cd_t _ _ 105 14 _ _ _ _ _ _
    refine x_getf cd_i105_14 hM.1 rfl rfl ?_
    refine x_n cd_i105_17 rfl rfl ?_
    show am_to cd_t _ _ 105 18 _ _ _ _ _ _
    refine x_getf cd_i105_18 hM.1 rfl rfl ?_
    rw [show i 3 = ii p from hP]
    refine x_n cd_i105_21 rfl rfl ?_
    show am_to cd_t _ _ 105 22 _ _ _ _ _ _
    refine x_iadd cd_i105_22 (z := ii (p + k)) (ii_add _ _) ?_
    refine x_caload cd_i105_23 (hM.2 1 (by decide) (by decide)) (show p + k < 120 by omega) (by decide) ?_
    rw [b3 _ hlt]
    refine x_n cd_i105_24 rfl rfl ?_
    show am_to cd_t _ _ 105 28 _ _ _ _ _ _
    exact x_end cd_i105_28 rfl (e _ rfl) rfl
  · refine x_icmp_t cd_i105_10 ((ii_le (by omega) (by omega)).mpr (by omega)) ?_
    refine x_ic cd_i105_27 (z := ii 0) rfl ?_
    show am_to cd_t _ _ 105 28 _ _ _ _ _ _
    exact x_end cd_i105_28 rfl (e _ (by rw [getD_out (by omega)])) rfl
end MR
