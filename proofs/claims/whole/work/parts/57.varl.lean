/-! variable, as the law calls it -/
section VL
variable {cs : Nat → Value} {d b top sl : Nat} {σ : am_H} {txt : List Nat} {vs : List (List Nat × Nat)} {v : Value}
/-- a call on an object that throws, caught at h -/
theorem x_catch {y pc u k idx b h a : Nat} {lv : am_V} {st as' rest fs : List Value} {res : am_R} {σ1 : am_H} {top1 sl1 : Nat} (hI : cd_I y pc = some (.invokevirtual idx, u, k)) (ho : σ b = some (.inr (.inl (cd_mc u, fs)))) (hd : 0 < d) (hst : st = as'.reverse ++ .ref b :: rest) (hk : as'.length = k) (hsum : Nat.ble ((rest.map fun w => w.category).sum) 8 = true) (hu : Nat.ble u 1000 = true) (hl : Nat.ble (as'.length + 1) (cd_ml u) = true) (hc : as'.all am_c1 = true)
    (h1 : am_to cd_t cs (d - 1) u 0 (am_ent (cd_ml u) (.ref b :: as')) [] σ top sl (.inr a, σ1, top1, sl1)) (hh : am_hd cd_t y u pc σ1 a = some h) (h2 : am_to cd_t cs d y h lv [.ref a] σ1 top1 sl1 res) : am_to cd_t cs d y pc lv st σ top sl res := by
  refine am_to_catch (t := cd_t) (as := .ref b :: as') (rest := rest) hI rfl ?_ (Nat.le_of_ble_eq_true hsum) (Nat.not_lt.mpr (Nat.le_of_ble_eq_true hu)) ⟨Nat.le_of_ble_eq_true hl, by rw [List.all_cons, hc]; rfl⟩ h1 hh h2
  subst hst
  subst hk
  show am_call cd_mc d _ σ _ u _ = _
  dsimp only [am_call]
  rw [if_neg (by omega)]
  have e1 : (as'.reverse ++ .ref b :: rest).drop as'.length = .ref b :: rest := by
    rw [List.drop_append_of_le_length (by rw [List.length_reverse]; exact Nat.le_refl _), List.drop_of_length_le (by rw [List.length_reverse]; exact Nat.le_refl _), List.nil_append]
  have e2 : (as'.reverse ++ .ref b :: rest).take as'.length = as'.reverse := by
    rw [List.take_append_of_le_length (by rw [List.length_reverse]; exact Nat.le_refl _), List.take_of_length_le (by rw [List.length_reverse]; exact Nat.le_refl _)]
  rw [e1, e2, List.reverse_reverse]
  dsimp only
  rw [ho]
  exact if_pos rfl
theorem x_variable (hd : 5 < d) (hx : X_o σ b v) (hB : X_buf σ b txt 0) (hT : ∀ c ∈ txt, cok c) (hS : X_sco σ b vs) :
    ∃ σ', X_buf σ' b [] 0 ∧ (∀ x, x ≠ b + 1 → (x < b + 6 ∨ b + 9 ≤ x) → σ' x = σ x) ∧
      ((vs.length = 5 ∧ X_sco σ' b vs ∧ am_to cd_t cs d 62 0 (am_ent 3 [.ref b]) [] σ top sl (.inr top, am_up σ' top (.inr (.inl (13, []))), top + 1, sl + 6)) ∨
       (¬ vs.length = 5 ∧ pVar txt vs = none ∧ X_sco σ' b vs ∧ am_to cd_t cs d 62 0 (am_ent 3 [.ref b]) [] σ top sl (.inr top, am_up σ' top (.inr (.inl (12, []))), top + 1, sl + 6)) ∨
       (¬ vs.length = 5 ∧ ∃ q, pVar txt vs = some q ∧ X_sco σ' b (vs ++ [q]) ∧ am_to cd_t cs d 62 0 (am_ent 3 [.ref b]) [] σ top sl (.inl (some (.int (ii (vs.length + 1)))), σ', top, sl))) := by
  by_cases hf : vs.length = 5
  · obtain ⟨s1, a1, a2, a3⟩ := x_clear (cs := cs) (d := d - 1) (top := top) (sl := sl) hB
    refine ⟨s1, a2, fun x h1 _ => a3 x h1, Or.inl ⟨hf, hS.kept (fun q h1 h2 => a3 q (by omega)), ?_⟩⟩
    refine x_n cd_i62_0 rfl rfl ?_
    refine x_getf cd_i62_1 (by assumption) rfl rfl ?_
    show am_to cd_t _ _ 62 4 _ _ _ _ _ _
    refine x_callv (as' := []) cd_i62_4 hS.1 (by omega) rfl rfl rfl rfl rfl rfl (x_isFull hS) ?_
    rw [if_pos hf]
    refine x_n cd_i62_7 rfl rfl ?_
    try dsimp only [List.set]
    refine x_n cd_i62_8 rfl rfl ?_
    show am_to cd_t _ _ 62 9 _ _ _ _ _ _
    refine x_if_t cd_i62_9 (fun z => absurd (show (1 : Int32) = 0 from z) (by decide)) ?_
    refine x_ic cd_i62_23 (z := ii 0) rfl ?_
    refine x_n cd_i62_24 rfl rfl ?_
    try dsimp only [List.set]
    refine x_n cd_i62_25 rfl rfl ?_
    refine x_getf cd_i62_26 (by assumption) rfl rfl ?_
    show am_to cd_t _ _ 62 29 _ _ _ _ _ _
    refine x_callv (as' := []) cd_i62_29 hB.1 (by omega) rfl rfl rfl rfl rfl rfl a1 ?_
    refine x_n cd_i62_32 rfl rfl ?_
    show am_to cd_t _ _ 62 33 _ _ _ _ _ _
    refine x_if_f cd_i62_33 (fun z => absurd (show (1 : Int32) = 0 from z) (by decide)) ?_
    exact am_to_throw (t := cd_t) cd_i62_36 rfl (by omega) (by decide)
  · obtain ⟨s1, q1, a1, a2, a3, a4⟩ := x_readVariable (cs := cs) (d := d - 1) (top := top) (sl := sl) (by omega) hx hB hT hS hf
    have x1 : X_o s1 b v := (a4 b (by omega) (by omega)).trans hx
    obtain ⟨s2, c1, c2, c3⟩ := x_clear (cs := cs) (d := d - 1) (top := top) (sl := sl) a2
    have x2 : X_o s2 b v := (c3 b (by omega)).trans x1
    have go : ∀ res (r : Int32), r = b2i (pVar txt vs).isSome → am_to cd_t cs d 62 44 [some (.ref b), some (.int 0), some (.int r)] [] s2 top sl res → am_to cd_t cs d 62 0 (am_ent 3 [.ref b]) [] σ top sl res := by
      intro res r hr hh
      refine x_n cd_i62_0 rfl rfl ?_
      refine x_getf cd_i62_1 (by assumption) rfl rfl ?_
      show am_to cd_t _ _ 62 4 _ _ _ _ _ _
      refine x_callv (as' := []) cd_i62_4 hS.1 (by omega) rfl rfl rfl rfl rfl rfl (x_isFull hS) ?_
      rw [if_neg hf]
      refine x_n cd_i62_7 rfl rfl ?_
      try dsimp only [List.set]
      refine x_n cd_i62_8 rfl rfl ?_
      show am_to cd_t _ _ 62 9 _ _ _ _ _ _
      refine x_if_f cd_i62_9 (fun z => z rfl) ?_
      refine x_n cd_i62_12 rfl rfl ?_
      show am_to cd_t _ _ 62 13 _ _ _ _ _ _
      refine x_callv (as' := []) cd_i62_13 hx (by omega) rfl rfl rfl rfl rfl rfl a1 ?_
      rw [← hr]
      have fin : ∀ z : Int32, z = r → am_to cd_t cs d 62 24 [some (.ref b), some (.int 0), none] [.int z] s1 top sl res := by
        intro z hz
        rw [hz]
        refine x_n cd_i62_24 rfl rfl ?_
        try dsimp only [List.set]
        refine x_n cd_i62_25 rfl rfl ?_
        refine x_getf cd_i62_26 (by assumption) rfl rfl ?_
        show am_to cd_t _ _ 62 29 _ _ _ _ _ _
        refine x_callv (as' := []) cd_i62_29 a2.1 (by omega) rfl rfl rfl rfl rfl rfl c1 ?_
        refine x_n cd_i62_32 rfl rfl ?_
        show am_to cd_t _ _ 62 33 _ _ _ _ _ _
        refine x_if_t cd_i62_33 rfl ?_
        exact hh
      cases hb : (pVar txt vs).isSome with
      | true =>
        rw [hb] at hr
        rw [hr]
        refine x_if_f cd_i62_16 (fun z => absurd (show (1 : Int32) = 0 from z) (by decide)) ?_
        refine x_ic cd_i62_19 (z := ii 1) rfl ?_
        refine x_n cd_i62_20 rfl rfl ?_
        show am_to cd_t _ _ 62 24 _ _ _ _ _ _
        exact fin (ii 1) (by rw [hr]; rfl)
      | false =>
        rw [hb] at hr
        rw [hr]
        refine x_if_t cd_i62_16 rfl ?_
        refine x_ic cd_i62_23 (z := ii 0) rfl ?_
        show am_to cd_t _ _ 62 24 _ _ _ _ _ _
        exact fin (ii 0) (by rw [hr]; rfl)
    refine ⟨s2, c2, fun x h1 h2 => (c3 x h1).trans (a4 x h1 h2), Or.inr ?_⟩
    cases hp : pVar txt vs with
    | none =>
      rw [hp] at a3 go
      refine Or.inl ⟨hf, rfl, ?_, go _ 0 rfl ?_⟩
      · rw [show vs ++ (none : Option (List Nat × Nat)).toList = vs from List.append_nil vs] at a3
        exact a3.kept (fun q h1 h2 => c3 q (by omega))
      · refine x_n cd_i62_44 rfl rfl ?_
        show am_to cd_t _ _ 62 45 _ _ _ _ _ _
        refine x_if_f cd_i62_45 (fun z => z rfl) ?_
        exact am_to_throw (t := cd_t) cd_i62_48 rfl (by omega) (by decide)
    | some q =>
      rw [hp] at a3 go
      have S2 : X_sco s2 b (vs ++ [q]) := (show X_sco s1 b (vs ++ [q]) from a3).kept (fun q h1 h2 => c3 q (by omega))
      refine Or.inr ⟨hf, q, rfl, S2, go _ 1 rfl ?_⟩
      have g1 := S2.1
      rw [show (vs ++ [q]).length = vs.length + 1 from List.length_append] at g1
      refine x_n cd_i62_44 rfl rfl ?_
      show am_to cd_t _ _ 62 45 _ _ _ _ _ _
      refine x_if_t cd_i62_45 (fun z => absurd (show (1 : Int32) = 0 from z) (by decide)) ?_
      refine x_n cd_i62_56 rfl rfl ?_
      refine x_getf cd_i62_57 (by assumption) rfl rfl ?_
      refine x_getf cd_i62_60 (by assumption) rfl rfl ?_
      show am_to cd_t _ _ 62 63 _ _ _ _ _ _
      exact x_end cd_i62_63 rfl rfl rfl
end VL
