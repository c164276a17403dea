/-! variable, of the desk -/
/-- a variable's declaration: its name and type -/
def pVar (txt : List Nat) (vs : List (List Nat × Nat)) : Option (List Nat × Nat) := match tkN txt 0 with
  | none => none
  | some w => if txt.getD (wl txt 0).length 0 = 58 then (match (tkT txt ((wl txt 0).length + 1)).1 with
    | none => none
    | some t => if (tkT txt ((wl txt 0).length + 1)).2 = txt.length ∧ varT vs w = none then some (w, t) else none) else none
theorem tkT_lt {txt : List Nat} {p t : Nat} (h : (tkT txt p).1 = some t) : t < 13 := by
  unfold tkT at h
  split at h
  · next c hc =>
    have := (tkC_some hc).2.1
    have h := Option.some.inj h
    omega
  · dsimp only at h
    split at h
    · cases h; decide
    · split at h
      · cases h; decide
      · split at h
        · cases h; decide
        · cases h
theorem tkT_len {txt : List Nat} {p : Nat} (hp : p ≤ txt.length) : (tkT txt p).2 ≤ txt.length := by
  unfold tkT
  split
  · next c hc =>
    have := (tkC_some hc).2.2
    show p + 1 ≤ _
    omega
  · exact wl_len txt p hp
theorem tkN_some {txt : List Nat} {p : Nat} {w : List Nat} (h : tkN txt p = some w) : w = wl txt p ∧ (∀ c ∈ w, 97 ≤ c ∧ c ≤ 122) ∧ 1 ≤ w.length ∧ w.length ≤ 4 := by
  unfold tkN at h
  split at h
  · next hc =>
    cases h
    exact ⟨rfl, wl_low, hc.1, hc.2.1⟩
  · cases h
theorem n256_pos {w : List Nat} (hw : ∀ c ∈ w, 97 ≤ c ∧ c ≤ 122) (h1 : 1 ≤ w.length) : n256 w ≠ 0 := by
  intro h
  have : w = [] := n256_inj hw (fun c hc => by cases hc) h
  rw [this] at h1
  exact absurd h1 (by decide)
section VX
variable {cs : Nat → Value} {d b top sl : Nat} {σ : am_H} {txt : List Nat} {vs : List (List Nat × Nat)} {v : Value}
theorem X_sco.kept {σ' : am_H} (h : X_sco σ b vs) (hq : ∀ q, b + 6 ≤ q → q < b + 9 → σ' q = σ q) : X_sco σ' b vs := by
  obtain ⟨h1, h2, h3, f, g, h4, h5, h6⟩ := h
  exact ⟨(hq _ (by omega) (by omega)).trans h1, h2, h3, f, g, (hq _ (by omega) (by omega)).trans h4, (hq _ (by omega) (by omega)).trans h5, h6⟩
theorem x_readVariable (hd : 2 < d) (hx : X_o σ b v) (hB : X_buf σ b txt 0) (hT : ∀ c ∈ txt, cok c) (hS : X_sco σ b vs) (hfull : ¬ vs.length = 5) :
    ∃ (σ' : am_H) (q : Nat), am_to cd_t cs d 64 0 (am_ent 3 [.ref b]) [] σ top sl (.inl (some (.int (b2i (pVar txt vs).isSome))), σ', top, sl) ∧ X_buf σ' b txt q ∧ X_sco σ' b (vs ++ (pVar txt vs).toList) ∧ ∀ x, x ≠ b + 1 → (x < b + 6 ∨ b + 9 ≤ x) → σ' x = σ x := by
  obtain ⟨s1, a1, a2, a3⟩ := x_takeName (cs := cs) (d := d - 1) (top := top) (sl := sl) (by omega) hT hB (Nat.zero_le _)
  rw [Nat.zero_add] at a2
  have x1 : X_o s1 b v := (a3 b (by omega)).trans hx
  have S1 : X_sco s1 b vs := hS.kept (fun q h1 h2 => a3 q (by omega))
  have hw := wl_len txt 0 (Nat.zero_le _)
  rw [Nat.zero_add] at hw
  have nil : vs ++ (none : Option (List Nat × Nat)).toList = vs := List.append_nil vs
  unfold pVar
  cases hN : tkN txt 0 with
  | none =>
    rw [hN] at a1
    refine ⟨s1, _, ?_, a2, by rw [nil]; exact S1, fun x h1 _ => a3 x h1⟩
    refine x_n cd_i64_0 rfl rfl ?_
    refine x_getf cd_i64_1 (by assumption) rfl rfl ?_
    show am_to cd_t _ _ 64 4 _ _ _ _ _ _
    refine x_callv (as' := []) cd_i64_4 hB.1 (by omega) rfl rfl rfl rfl rfl rfl a1 ?_
    refine x_n cd_i64_7 rfl rfl ?_
    try dsimp only [List.set]
    refine x_n cd_i64_8 rfl rfl ?_
    show am_to cd_t _ _ 64 9 _ _ _ _ _ _
    refine x_if_t cd_i64_9 rfl ?_
    refine x_ic cd_i64_24 (z := ii 0) rfl ?_
    show am_to cd_t _ _ 64 25 _ _ _ _ _ _
    exact x_end cd_i64_25 rfl rfl rfl
  | some w =>
    obtain ⟨ew, w1, w2, w3⟩ := tkN_some hN
    rw [hN] at a1
    have hne : ¬ ii (n256 w) = 0 := fun z => n256_pos w1 w2 ((ii_eq (b := 0) (n256_small w1 w3) (by decide)).mp z)
    obtain ⟨s2, b1, b2, b3⟩ := x_take (cs := cs) (d := d - 1) (top := top) (sl := sl) (c := 58) (by omega) a2 hT hw (by decide) (by decide)
    have x2 : X_o s2 b v := (b3 b (by omega)).trans x1
    have S2 : X_sco s2 b vs := S1.kept (fun q h1 h2 => b3 q (by omega))
    have go1 : ∀ res, am_to cd_t cs d 64 21 [some (.ref b), some (.int (ii (n256 w))), none] [.int (if txt.getD (wl txt 0).length 0 = 58 then 1 else 0)] s2 top sl res → am_to cd_t cs d 64 0 (am_ent 3 [.ref b]) [] σ top sl res := by
      intro res hh
      refine x_n cd_i64_0 rfl rfl ?_
      refine x_getf cd_i64_1 (by assumption) rfl rfl ?_
      show am_to cd_t _ _ 64 4 _ _ _ _ _ _
      refine x_callv (as' := []) cd_i64_4 hB.1 (by omega) rfl rfl rfl rfl rfl rfl a1 ?_
      refine x_n cd_i64_7 rfl rfl ?_
      try dsimp only [List.set]
      refine x_n cd_i64_8 rfl rfl ?_
      show am_to cd_t _ _ 64 9 _ _ _ _ _ _
      refine x_if_f cd_i64_9 hne ?_
      refine x_n cd_i64_12 rfl rfl ?_
      refine x_getf cd_i64_13 (by assumption) rfl rfl ?_
      refine x_bi cd_i64_16 (z := ii 58) (by decide) ?_
      show am_to cd_t _ _ 64 18 _ _ _ _ _ _
      refine x_callv (as' := [.int (ii 58)]) cd_i64_18 a2.1 (by omega) rfl rfl rfl rfl rfl rfl b1 ?_
      exact hh
    by_cases hc : txt.getD (wl txt 0).length 0 = 58
    · rw [if_pos hc] at b2 go1
      dsimp only
      rw [if_pos hc]
      have hlt : (wl txt 0).length < txt.length := by
        by_cases h9 : (wl txt 0).length < txt.length
        · exact h9
        · rw [getD_out (by omega)] at hc
          cases hc
      obtain ⟨s3, c1, c2, c3⟩ := x_takeType (cs := cs) (d := d - 1) (top := top) (sl := sl) (by omega) hT b2 (by omega)
      have x3 : X_o s3 b v := (c3 b (by omega)).trans x2
      have S3 : X_sco s3 b vs := S2.kept (fun q h1 h2 => c3 q (by omega))
      have hlen := tkT_len (txt := txt) (p := (wl txt 0).length + 1) (by omega)
      have f3 : ∀ x, x ≠ b + 1 → s3 x = σ x := fun x h => (c3 x h).trans ((b3 x h).trans (a3 x h))
      have go2 : ∀ res, am_to cd_t cs d 64 36 [some (.ref b), some (.int (ii (n256 w))), some (.int (oi (tkT txt ((wl txt 0).length + 1)).1))] [.int (-1), .int (oi (tkT txt ((wl txt 0).length + 1)).1)] s3 top sl res → am_to cd_t cs d 64 0 (am_ent 3 [.ref b]) [] σ top sl res := by
        intro res hh
        refine go1 res ?_
        refine x_if_t cd_i64_21 (fun z => absurd (show (1 : Int32) = 0 from z) (by decide)) ?_
        refine x_n cd_i64_26 rfl rfl ?_
        refine x_getf cd_i64_27 (by assumption) rfl rfl ?_
        show am_to cd_t _ _ 64 30 _ _ _ _ _ _
        refine x_callv (as' := []) cd_i64_30 b2.1 (by omega) rfl rfl rfl rfl rfl rfl c1 ?_
        refine x_n cd_i64_33 rfl rfl ?_
        try dsimp only [List.set]
        refine x_n cd_i64_34 rfl rfl ?_
        refine x_ic cd_i64_35 (z := (-1)) rfl ?_
        show am_to cd_t _ _ 64 36 _ _ _ _ _ _
        exact hh
      cases ht : (tkT txt ((wl txt 0).length + 1)).1 with
      | none =>
        rw [ht] at go2
        refine ⟨s3, _, go2 _ ?_, c2, by rw [nil]; exact S3, fun x h1 _ => f3 x h1⟩
        refine x_icmp_t cd_i64_36 rfl ?_
        refine x_ic cd_i64_65 (z := ii 0) rfl ?_
        show am_to cd_t _ _ 64 66 _ _ _ _ _ _
        exact x_end cd_i64_66 rfl rfl rfl
      | some t =>
        rw [ht] at go2
        have ht13 := tkT_lt ht
        have go3 : ∀ res, am_to cd_t cs d 64 46 [some (.ref b), some (.int (ii (n256 w))), some (.int (ii t))] [.int (if (tkT txt ((wl txt 0).length + 1)).2 = txt.length then 1 else 0)] s3 top sl res → am_to cd_t cs d 64 0 (am_ent 3 [.ref b]) [] σ top sl res := by
          intro res hh
          refine go2 res ?_
          refine x_icmp_f cd_i64_36 (fun z => ii_ne1 (by omega) (show ii t = -1 from z)) ?_
          refine x_n cd_i64_39 rfl rfl ?_
          refine x_getf cd_i64_40 (by assumption) rfl rfl ?_
          show am_to cd_t _ _ 64 43 _ _ _ _ _ _
          refine x_callv (as' := []) cd_i64_43 c2.1 (by omega) rfl rfl rfl rfl rfl rfl (x_isAtEnd c2 hlen) ?_
          exact hh
        dsimp only
        by_cases he : (tkT txt ((wl txt 0).length + 1)).2 = txt.length
        · rw [if_pos he] at go3
          obtain ⟨s4, d1, d2, d3⟩ := x_scoAdd (cs := cs) (d := d - 1) (top := top) (sl := sl) (by omega) S3 w1 w2 w3 ht13 hfull
          have go4 : ∀ res, am_to cd_t cs d 64 58 [some (.ref b), some (.int (ii (n256 w))), some (.int (ii t))] [.int (if varT vs w = none then 1 else 0)] s4 top sl res → am_to cd_t cs d 64 0 (am_ent 3 [.ref b]) [] σ top sl res := by
            intro res hh
            refine go3 res ?_
            refine x_if_f cd_i64_46 (fun z => absurd (show (1 : Int32) = 0 from z) (by decide)) ?_
            refine x_n cd_i64_49 rfl rfl ?_
            refine x_getf cd_i64_50 (by assumption) rfl rfl ?_
            refine x_n cd_i64_53 rfl rfl ?_
            refine x_n cd_i64_54 rfl rfl ?_
            show am_to cd_t _ _ 64 55 _ _ _ _ _ _
            refine x_callv (as' := [.int (ii (n256 w)), .int (ii t)]) cd_i64_55 S3.1 (by omega) rfl rfl rfl rfl rfl rfl d1 ?_
            exact hh
          have B4 : X_buf s4 b txt (tkT txt ((wl txt 0).length + 1)).2 := c2.kept (d3 _ (by omega)) (d3 _ (by omega))
          by_cases hv : varT vs w = none
          · rw [if_pos hv] at d2 go4
            rw [if_pos ⟨he, hv⟩]
            refine ⟨s4, _, go4 _ ?_, B4, d2, fun x h1 h2 => (d3 x h2).trans (f3 x h1)⟩
            refine x_if_f cd_i64_58 (fun z => absurd (show (1 : Int32) = 0 from z) (by decide)) ?_
            refine x_ic cd_i64_61 (z := ii 1) rfl ?_
            refine x_n cd_i64_62 rfl rfl ?_
            show am_to cd_t _ _ 64 66 _ _ _ _ _ _
            exact x_end cd_i64_66 rfl rfl rfl
          · rw [if_neg hv] at d2 go4
            rw [if_neg (fun z => hv z.2)]
            refine ⟨s4, _, go4 _ ?_, B4, by rw [nil]; exact d2, fun x h1 h2 => (d3 x h2).trans (f3 x h1)⟩
            refine x_if_t cd_i64_58 rfl ?_
            refine x_ic cd_i64_65 (z := ii 0) rfl ?_
            show am_to cd_t _ _ 64 66 _ _ _ _ _ _
            exact x_end cd_i64_66 rfl rfl rfl
        · rw [if_neg he] at go3
          rw [if_neg (fun z => he z.1)]
          refine ⟨s3, _, go3 _ ?_, c2, by rw [nil]; exact S3, fun x h1 _ => f3 x h1⟩
          refine x_if_t cd_i64_46 rfl ?_
          refine x_ic cd_i64_65 (z := ii 0) rfl ?_
          show am_to cd_t _ _ 64 66 _ _ _ _ _ _
          exact x_end cd_i64_66 rfl rfl rfl
    · rw [if_neg hc] at b2 go1
      dsimp only
      rw [if_neg hc]
      refine ⟨s2, _, go1 _ ?_, b2, by rw [nil]; exact S2, fun x h1 _ => (b3 x h1).trans (a3 x h1)⟩
      refine x_if_f cd_i64_21 (fun z => z rfl) ?_
      refine x_ic cd_i64_24 (z := ii 0) rfl ?_
      show am_to cd_t _ _ 64 25 _ _ _ _ _ _
      exact x_end cd_i64_25 rfl rfl rfl
end VX
