section TX
variable {cs : Nat → Value} {d b top sl : Nat} {σ : am_H} {txt : List Nat} {p : Nat}
theorem tkC_none {txt : List Nat} {p : Nat} (h : (tkC txt p).1 = none) : (tkC txt p).2 = p := by
  unfold tkC at h ⊢
  split at h
  · cases h
  · next hc => rw [if_neg hc]
theorem tkC_some {txt : List Nat} {p c : Nat} (h : (tkC txt p).1 = some c) : (tkC txt p).2 = p + 1 ∧ c < 10 ∧ p < txt.length := by
  unfold tkC at h ⊢
  split at h
  · next hc =>
    rw [if_pos hc]
    have h := Option.some.inj h
    refine ⟨rfl, by omega, ?_⟩
    by_cases hp : p < txt.length
    · exact hp
    · rw [getD_out (by omega)] at hc
      omega
  · cases h
theorem x_takeType (hd : 1 < d) (hT : ∀ c ∈ txt, cok c) (h : X_buf σ b txt p) (hp : p ≤ txt.length) : ∃ σ', am_to cd_t cs d 50 0 (am_ent 2 [.ref (b + 1)]) [] σ top sl (.inl (some (.int (oi (tkT txt p).1))), σ', top, sl) ∧ X_buf σ' b txt (tkT txt p).2 ∧ ∀ x, x ≠ b + 1 → σ' x = σ x := by
  obtain ⟨s1, a1, a2, a3⟩ := x_takeClass (cs := cs) (d := d - 1) (top := top) (sl := sl) (by omega) h hT hp
  unfold tkT
  cases hc : (tkC txt p).1 with
  | some c =>
    obtain ⟨e1, e2, e3⟩ := tkC_some hc
    rw [e1] at a2
    rw [hc] at a1
    refine ⟨s1, ?_, a2, a3⟩
    refine x_n cd_i50_0 rfl rfl ?_
    show am_to cd_t _ _ 50 1 _ _ _ _ _ _
    refine x_callv (as' := []) cd_i50_1 h.1 (by omega) rfl rfl rfl rfl rfl rfl a1 ?_
    refine x_n cd_i50_4 rfl rfl ?_
    try dsimp only [List.set]
    refine x_n cd_i50_5 rfl rfl ?_
    refine x_ic cd_i50_6 (z := (-1)) rfl ?_
    show am_to cd_t _ _ 50 7 _ _ _ _ _ _
    refine x_icmp_f cd_i50_7 (fun z => ii_ne1 (by omega) (show ii c = -1 from z)) ?_
    refine x_ic cd_i50_10 (z := ii 3) rfl ?_
    refine x_n cd_i50_11 rfl rfl ?_
    show am_to cd_t _ _ 50 12 _ _ _ _ _ _
    refine x_iadd cd_i50_12 (z := ii (3 + c)) (ii_add _ _) ?_
    exact x_end cd_i50_13 rfl rfl rfl
  | none =>
    rw [tkC_none hc] at a2
    rw [hc] at a1
    obtain ⟨s2, b1, b2, b3⟩ := x_takeWord (cs := cs) (d := d - 1) (top := top) (sl := sl) hT a2 hp
    refine ⟨s2, ?_, b2, fun x hx => (b3 x hx).trans (a3 x hx)⟩
    have hsm := wv_small txt p
    refine x_n cd_i50_0 rfl rfl ?_
    show am_to cd_t _ _ 50 1 _ _ _ _ _ _
    refine x_callv (as' := []) cd_i50_1 h.1 (by omega) rfl rfl rfl rfl rfl rfl a1 ?_
    refine x_n cd_i50_4 rfl rfl ?_
    try dsimp only [List.set]
    refine x_n cd_i50_5 rfl rfl ?_
    refine x_ic cd_i50_6 (z := (-1)) rfl ?_
    show am_to cd_t _ _ 50 7 _ _ _ _ _ _
    refine x_icmp_t cd_i50_7 rfl ?_
    refine x_n cd_i50_14 rfl rfl ?_
    show am_to cd_t _ _ 50 15 _ _ _ _ _ _
    refine x_callv (as' := []) cd_i50_15 a2.1 (by omega) rfl rfl rfl rfl rfl rfl b1 ?_
    have i1 := wv_iff (txt := txt) (p := p) (w := [105, 110, 116]) (by decide) (by decide) (by decide)
    have i3 := wv_iff (txt := txt) (p := p) (w := [98, 111, 111, 108]) (by decide) (by decide) (by decide)
    have i4 := wv_iff (txt := txt) (p := p) (w := [108, 111, 110, 103]) (by decide) (by decide) (by decide)
    rw [show n256 [105, 110, 116] = 6909556 by decide] at i1
    rw [show n256 [98, 111, 111, 108] = 1651470188 by decide] at i3
    rw [show n256 [108, 111, 110, 103] = 1819242087 by decide] at i4
    by_cases n1 : wl txt p = [105, 110, 116]
    · rw [if_pos n1]
      refine x_lsw cd_i50_18 (off := 34) (q := 52) (by decide) (by rw [ii_toInt hsm, i1.mpr n1]; decide) rfl ?_
      refine x_ic cd_i50_52 (z := ii 0) rfl ?_
      show am_to cd_t _ _ 50 53 _ _ _ _ _ _
      exact x_end cd_i50_53 rfl rfl rfl
    · rw [if_neg n1]
      by_cases n4 : wl txt p = [108, 111, 110, 103]
      · rw [if_pos n4]
        refine x_lsw cd_i50_18 (off := 36) (q := 54) (by decide) (by rw [ii_toInt hsm, i4.mpr n4]; decide) rfl ?_
        refine x_ic cd_i50_54 (z := ii 1) rfl ?_
        show am_to cd_t _ _ 50 55 _ _ _ _ _ _
        exact x_end cd_i50_55 rfl rfl rfl
      · rw [if_neg n4]
        by_cases n3 : wl txt p = [98, 111, 111, 108]
        · rw [if_pos n3]
          refine x_lsw cd_i50_18 (off := 38) (q := 56) (by decide) (by rw [ii_toInt hsm, i3.mpr n3]; decide) rfl ?_
          refine x_ic cd_i50_56 (z := ii 2) rfl ?_
          show am_to cd_t _ _ 50 57 _ _ _ _ _ _
          exact x_end cd_i50_57 rfl rfl rfl
        · rw [if_neg n3]
          have m1 := mt i1.mp n1
          have m3 := mt i3.mp n3
          have m4 := mt i4.mp n4
          refine x_lsw cd_i50_18 (off := 40) (q := 58) (by decide) ?_ rfl ?_
          · rw [ii_toInt hsm]
            show Op.lookupswitch.offset [(6909556, 34), (1651470188, 38), (1819242087, 36)] 40 (wv txt p : Int) = 40
            rw [Op.lookupswitch.offset_cons, if_neg (by omega), Op.lookupswitch.offset_cons, if_neg (by omega), Op.lookupswitch.offset_cons, if_neg (by omega)]
            rfl
          · refine x_ic cd_i50_58 (z := (-1)) rfl ?_
            show am_to cd_t _ _ 50 59 _ _ _ _ _ _
            exact x_end cd_i50_59 rfl rfl rfl
/-- what is in scope: names and types -/
def X_sco (σ : am_H) (b : Nat) (vs : List (List Nat × Nat)) : Prop := σ (b + 6) = some (.inr (.inl (9, [.ref (b + 7), .ref (b + 8), .int (ii vs.length)]))) ∧ vs.length ≤ 5 ∧ (∀ q ∈ vs, (∀ c ∈ q.1, 97 ≤ c ∧ c ≤ 122) ∧ 1 ≤ q.1.length ∧ q.1.length ≤ 4 ∧ q.2 < 13) ∧ ∃ f g : Nat → Int32, σ (b + 7) = some (.inl (.int, 5, .inl f)) ∧ σ (b + 8) = some (.inl (.int, 5, .inl g)) ∧ ∀ j, j < vs.length → f j = ii (n256 (vs.getD j default).1) ∧ g j = ii (vs.getD j default).2
/-- the type of a name in scope, the first that has it -/
def varT (vs : List (List Nat × Nat)) (w : List Nat) : Option Nat := (vs.find? (fun q => q.1 == w)).map (fun q => q.2)
end TX
