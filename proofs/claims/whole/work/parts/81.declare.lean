/-! declare, of the desk, and as the law calls it -/
section DE
variable {cs : Nat → Value} {d b top sl : Nat} {σ : am_H} {ad : Nat → Nat} {dec : Nat → Option Dec} {pl : Int32} {da : Nat → Nat} {ea : Nat → Nat → Nat} {rk : Nat → Nat} {txt : List Nat} {v : Value}
theorem x_declare (hd : 8 < d) (hcs : csOk cs ad) (hS : csS cs σ b) (hx : X_o σ b v) (hR : σ (b + 9) = some (.inr (.inl (5, [.ref (b + 1), .ref (b + 3)])))) (hB : X_buf σ b txt 0) (hT : ∀ c ∈ txt, cok c) (hC : X_cat ad σ b top dec pl da ea) (hO : catOk dec) (hr : ranked dec rk) (hb : b + 114 ≤ top) :
    ∃ (σ' : am_H) (top' sl' : Nat), X_buf σ' b [] 0 ∧ top ≤ top' ∧ top' ≤ top + 14 ∧ sl' ≤ sl + 64 ∧
      ((pDecl dec txt = none ∧ (∀ x, x ≠ b + 1 → x < top → σ' x = σ x) ∧ am_to cd_t cs d 31 0 (am_ent 3 [.ref b]) [] σ top sl (.inr top', am_up σ' top' (.inr (.inl (12, []))), top' + 1, sl' + 6)) ∨
       (∃ c par ms D, pDecl dec txt = some (c, par, ms) ∧ c < 10 ∧ dec c = some D ∧ (∀ x, x ≠ b + 1 → x < top → σ' x = σ x) ∧ am_to cd_t cs d 31 0 (am_ent 3 [.ref b]) [] σ top sl (.inr top', am_up σ' top' (.inr (.inl (13, []))), top' + 1, sl' + 6)) ∨
       (∃ c par ms ea', pDecl dec txt = some (c, par, ms) ∧ c < 10 ∧ dec c = none ∧ (∀ p, par = some p → ∃ D, dec p = some D) ∧ ms.length ≤ 6 ∧ (∀ M ∈ ms, memOk M) ∧ distM ms ∧ X_cat ad σ' b top' (updD dec c (par, ms)) pl (upN da c top) (upE ea c ea') ∧ (∀ x, x ≠ b + 1 → x ≠ b + 4 → x ≠ b + 5 → x < top → σ' x = σ x) ∧ am_to cd_t cs d 31 0 (am_ent 3 [.ref b]) [] σ top sl (.inl (some (.int (ii ms.length))), σ', top', sl'))) := by
  obtain ⟨s1, p1, top1, sl1, r1, a1, a2, a3, a4, a5, a6, a7, a8⟩ := x_readHead (cs := cs) (d := d - 1) (top := top) (sl := sl) (by omega) hR hB hT hC (Nat.le_refl _) hb
  have x1 : X_o s1 b v := (a7 b (by omega) (by omega)).trans hx
  have bad : ∀ (s2 : am_H) (p2 top2 sl2 : Nat) (v1 : Option Value), X_buf s2 b txt p2 → top ≤ top2 → top2 ≤ top + 14 → sl2 ≤ sl + 64 → (∀ x, x ≠ b + 1 → x < top → s2 x = σ x) → (∀ res, am_to cd_t cs d 31 37 [some (.ref b), v1, none] [] s2 top2 sl2 res → am_to cd_t cs d 31 0 (am_ent 3 [.ref b]) [] σ top sl res) →
      ∃ (σ' : am_H) (top' sl' : Nat), X_buf σ' b [] 0 ∧ top ≤ top' ∧ top' ≤ top + 14 ∧ sl' ≤ sl + 64 ∧ (∀ x, x ≠ b + 1 → x < top → σ' x = σ x) ∧ am_to cd_t cs d 31 0 (am_ent 3 [.ref b]) [] σ top sl (.inr top', am_up σ' top' (.inr (.inl (12, []))), top' + 1, sl' + 6) := by
    intro s2 p2 top2 sl2 v1 h1 h2 h3 h4 h5 h6
    have x2 : X_o s2 b v := (h5 b (by omega) (by omega)).trans hx
    obtain ⟨s3, c1, c2, c3⟩ := x_clear (cs := cs) (d := d - 1) (top := top2) (sl := sl2) h1
    refine ⟨s3, top2, sl2, c2, h2, h3, h4, fun x k1 k2 => (c3 x k1).trans (h5 x k1 k2), h6 _ ?_⟩
    refine x_ic cd_i31_37 (z := ii 0) rfl ?_
    refine x_n cd_i31_38 rfl rfl ?_
    try dsimp only [List.set]
    refine x_n cd_i31_39 rfl rfl ?_
    refine x_getf cd_i31_40 (by assumption) rfl rfl ?_
    show am_to cd_t _ _ 31 43 _ _ _ _ _ _
    refine x_callv (as' := []) (r := none) cd_i31_43 h1.1 (by omega) rfl rfl rfl rfl rfl rfl c1 ?_
    refine x_n cd_i31_46 rfl rfl ?_
    show am_to cd_t _ _ 31 47 _ _ _ _ _ _
    refine x_if_f cd_i31_47 (fun z => z rfl) ?_
    exact am_to_throw (t := cd_t) cd_i31_50 rfl (by omega) (by decide)
  unfold pDecl
  rcases a8 with ⟨h1, h2⟩ | ⟨c, par, h1, h2, h3, h4, h5⟩
  · rw [h2]
    rw [h1] at a1
    obtain ⟨s3, t3, l3, k1, k2, k3, k4, k5, k6⟩ := bad s1 p1 top1 sl1 (some .null) a2 a4 (by omega) (by omega) a7 (fun res hh => by
      refine x_n cd_i31_0 rfl rfl ?_
      refine x_getf cd_i31_1 (by assumption) rfl rfl ?_
      show am_to cd_t _ _ 31 4 _ _ _ _ _ _
      refine x_callv (as' := []) cd_i31_4 hR (by omega) rfl rfl rfl rfl rfl rfl a1 ?_
      refine x_n cd_i31_7 rfl rfl ?_
      try dsimp only [List.set]
      refine x_n cd_i31_8 rfl rfl ?_
      show am_to cd_t _ _ 31 9 _ _ _ _ _ _
      refine x_null_t cd_i31_9 ?_
      exact hh)
    exact ⟨s3, t3, l3, k1, k2, k3, k4, Or.inl ⟨rfl, k5, k6⟩⟩
  · rw [h1]
    rw [h2] at a1
    dsimp only
    have R1 := (a7 (b + 9) (by omega) (by omega)).trans hR
    have S1 : csS cs s1 b := hS.kept (fun q hq => a7 q (by omega) (by omega))
    have C1 : X_cat ad s1 b top dec pl da ea := hC.kept (a7 _ (by omega) (by omega)) (a7 _ (by omega) (by omega)) (a7 _ (by omega) (by omega)) (fun q g1 g2 => a7 q (by omega) g2) (Nat.le_refl _)
    obtain ⟨s2, p2, top2, sl2, ms, ea2, b1, b2, b3, b4, b5, b6, b7, b8⟩ := x_readMembers (cs := cs) (d := d - 1) (sl := sl1) (p := p1) (by omega) hcs hT hb hO hr h3 h4 S1 R1 a2 a3 a4 C1 h5
    have f2 : ∀ x, x ≠ b + 1 → x < top → s2 x = σ x := fun x k1 k2 => (b7 x k1 k2).trans (a7 x k1 k2)
    have x2 : X_o s2 b v := (f2 b (by omega) (by omega)).trans hx
    have go1 : ∀ z : Int32, am_to cd_t cs (d - 1) 37 0 (am_ent 3 [.ref (b + 9), .ref top]) [] s1 top1 sl1 (.inl (some (.int z)), s2, top2, sl2) → ∀ res, am_to cd_t cs d 31 20 [some (.ref b), some (.ref top), none] [.int z] s2 top2 sl2 res → am_to cd_t cs d 31 0 (am_ent 3 [.ref b]) [] σ top sl res := by
      intro z hz res hh
      refine x_n cd_i31_0 rfl rfl ?_
      refine x_getf cd_i31_1 (by assumption) rfl rfl ?_
      show am_to cd_t _ _ 31 4 _ _ _ _ _ _
      refine x_callv (as' := []) cd_i31_4 hR (by omega) rfl rfl rfl rfl rfl rfl a1 ?_
      refine x_n cd_i31_7 rfl rfl ?_
      try dsimp only [List.set]
      refine x_n cd_i31_8 rfl rfl ?_
      show am_to cd_t _ _ 31 9 _ _ _ _ _ _
      refine x_null_f cd_i31_9 ?_
      refine x_n cd_i31_12 rfl rfl ?_
      refine x_getf cd_i31_13 (by assumption) rfl rfl ?_
      refine x_n cd_i31_16 rfl rfl ?_
      show am_to cd_t _ _ 31 17 _ _ _ _ _ _
      refine x_callv (as' := [.ref top]) cd_i31_17 R1 (by omega) rfl rfl rfl rfl rfl rfl hz ?_
      exact hh
    cases hP : pMbs dec par c txt p1 with
    | none =>
      rw [hP] at b1
      obtain ⟨s3, t3, l3, k1, k2, k3, k4, k5, k6⟩ := bad s2 p2 top2 sl2 (some (.ref top)) b2 (by omega) (by omega) (by omega) f2 (fun res hh => go1 _ b1 res (x_if_t cd_i31_20 rfl hh))
      exact ⟨s3, t3, l3, k1, k2, k3, k4, Or.inl ⟨rfl, k5, k6⟩⟩
    | some R =>
      obtain ⟨e1, e2, e3, e4, e5⟩ := b8 R hP
      rw [hP] at b1
      rw [e1]
      dsimp only
      have hend := x_isAtEnd (cs := cs) (d := d - 1) (top := top2) (sl := sl2) b2 b3
      have go2 : ∀ z : Int32, am_to cd_t cs (d - 1) 59 0 (am_ent 1 [.ref (b + 1)]) [] s2 top2 sl2 (.inl (some (.int z)), s2, top2, sl2) → ∀ res, am_to cd_t cs d 31 30 [some (.ref b), some (.ref top), none] [.int z] s2 top2 sl2 res → am_to cd_t cs d 31 0 (am_ent 3 [.ref b]) [] σ top sl res := by
        intro z hz res hh
        refine go1 _ b1 res (x_if_f cd_i31_20 (fun z => absurd (show (1 : Int32) = 0 from z) (by decide)) ?_)
        refine x_n cd_i31_23 rfl rfl ?_
        refine x_getf cd_i31_24 (by assumption) rfl rfl ?_
        show am_to cd_t _ _ 31 27 _ _ _ _ _ _
        refine x_callv (as' := []) cd_i31_27 b2.1 (by omega) rfl rfl rfl rfl rfl rfl hz ?_
        exact hh
      by_cases hq : p2 = txt.length
      · rw [if_pos hq] at hend ⊢
        obtain ⟨s3, c1, c2, c3⟩ := x_clear (cs := cs) (d := d - 1) (top := top2) (sl := sl2) b2
        have f3 : ∀ x, x ≠ b + 1 → x < top → s3 x = σ x := fun x k1 k2 => (c3 x k1).trans (f2 x k1 k2)
        have x3 : X_o s3 b v := (f3 b (by omega) (by omega)).trans hx
        have C3 : X_cat ad s3 b top dec pl da ea := hC.kept (f3 _ (by omega) (by omega)) (f3 _ (by omega) (by omega)) (f3 _ (by omega) (by omega)) (fun q g1 g2 => f3 q (by omega) g2) (Nat.le_refl _)
        have A3 : decAt ad s3 top top2 top c (par.map da) ms ea2 := e2.kept (fun q k1 k2 => c3 q (by omega)) (Nat.le_refl _)
        have go3 : ∀ res, am_to cd_t cs d 31 63 [some (.ref b), some (.ref top), some (.int (ii 1))] [.ref top, .ref (b + 3)] s3 top2 sl2 res → am_to cd_t cs d 31 0 (am_ent 3 [.ref b]) [] σ top sl res := by
          intro res hh
          refine go2 _ hend res (x_if_f cd_i31_30 (fun z => absurd (show (1 : Int32) = 0 from z) (by decide)) ?_)
          refine x_ic cd_i31_33 (z := ii 1) rfl ?_
          refine x_n cd_i31_34 rfl rfl ?_
          refine x_n cd_i31_38 rfl rfl ?_
          try dsimp only [List.set]
          refine x_n cd_i31_39 rfl rfl ?_
          refine x_getf cd_i31_40 (by assumption) rfl rfl ?_
          show am_to cd_t _ _ 31 43 _ _ _ _ _ _
          refine x_callv (as' := []) (r := none) cd_i31_43 b2.1 (by omega) rfl rfl rfl rfl rfl rfl c1 ?_
          refine x_n cd_i31_46 rfl rfl ?_
          show am_to cd_t _ _ 31 47 _ _ _ _ _ _
          refine x_if_t cd_i31_47 (fun z => absurd (show (1 : Int32) = 0 from z) (by decide)) ?_
          refine x_n cd_i31_58 rfl rfl ?_
          refine x_getf cd_i31_59 (by assumption) rfl rfl ?_
          refine x_n cd_i31_62 rfl rfl ?_
          show am_to cd_t _ _ 31 63 _ _ _ _ _ _
          exact hh
        cases hD : dec c with
        | some D =>
          have hn := x_catAdd_no (cs := cs) (d := d - 1) (top := top2) (sl := sl2) (by omega) C3 A3 h3 hD
          refine ⟨s3, top2, sl2, c2, by omega, by omega, by omega, Or.inr (Or.inl ⟨c, par, ms, D, rfl, h3, hD, f3, go3 _ ?_⟩)⟩
          refine x_callv (as' := [.ref top]) cd_i31_63 C3.1 (by omega) rfl rfl rfl rfl rfl rfl hn ?_
          refine x_if_f cd_i31_66 (fun z => z rfl) ?_
          exact am_to_throw (t := cd_t) cd_i31_69 rfl (by omega) (by decide)
        | none =>
          obtain ⟨s4, k1, k2, k3⟩ := x_catAdd (cs := cs) (d := d - 1) (top := top2) (sl := sl2) (by omega) hr C3 A3 h3 hD h4 hb (by omega) e5
          have hl6 : ms.length ≤ 6 := by
            obtain ⟨q1, q2, qr, qg, q3, q4, q5, q6, q7, q8⟩ := A3
            exact q7
          refine ⟨s4, top2, sl2, c2.kept (k3 _ (by omega) (by omega)) (k3 _ (by omega) (by omega)), by omega, by omega, by omega, Or.inr (Or.inr ⟨c, par, ms, ea2, rfl, h3, hD, h4, hl6, e3, e4, k2, fun x l1 l2 l3 l4 => (k3 x l2 l3).trans (f3 x l1 l4), go3 _ ?_⟩)⟩
          obtain ⟨q1, q2, qr, qg, q3, q4, q5, q6, q7, q8⟩ := id A3
          have q5' := (k3 top (by omega) (by omega)).trans q5
          refine x_callv (as' := [.ref top]) cd_i31_63 C3.1 (by omega) rfl rfl rfl rfl rfl rfl k1 ?_
          refine x_if_t cd_i31_66 (fun z => absurd (show (1 : Int32) = 0 from z) (by decide)) ?_
          refine x_n cd_i31_77 rfl rfl ?_
          show am_to cd_t _ _ 31 78 _ _ _ _ _ _
          refine x_getf cd_i31_78 q5' rfl rfl ?_
          exact x_end cd_i31_81 rfl rfl rfl
      · rw [if_neg hq] at hend ⊢
        obtain ⟨s3, t3, l3, k1, k2, k3, k4, k5, k6⟩ := bad s2 p2 top2 sl2 (some (.ref top)) b2 (by omega) (by omega) (by omega) f2 (fun res hh => go2 _ hend res (x_if_t cd_i31_30 rfl hh))
        exact ⟨s3, t3, l3, k1, k2, k3, k4, Or.inl ⟨rfl, k5, k6⟩⟩
/-- the law's call of declare -/
theorem l_declare {o : Nat} {f : Nat → Int64} (hd : 9 < d) (hbo : b + 88 ≤ o) (hot : o < b + 114) (hcs : csOk cs ad) (hS : csS cs σ b) (hx : X_o σ b v) (hR : σ (b + 9) = some (.inr (.inl (5, [.ref (b + 1), .ref (b + 3)])))) (hB : X_buf σ b txt 0) (hT : ∀ c ∈ txt, cok c) (hC : X_cat ad σ b top dec pl da ea) (hO : catOk dec) (hr : ranked dec rk) (hb : b + 114 ≤ top) (hOo : σ o = some (.inl (.long, 1, .inr (.inl f)))) :
    ∃ (σ' : am_H) (k : Int32) (g : Nat → Int64) (dec' : Nat → Option Dec) (da' : Nat → Nat) (ea' : Nat → Nat → Nat) (top' sl' : Nat), am_to cd_t cs d 157 0 (am_ent 3 [.ref b, .ref o]) [] σ top sl (.inl (some (.int k)), σ', top', sl') ∧ top ≤ top' ∧ top' ≤ top + 15 ∧ sl' ≤ sl + 70 ∧ X_buf σ' b [] 0 ∧ X_cat ad σ' b top' dec' pl da' ea' ∧ σ' o = some (.inl (.long, 1, .inr (.inl g))) ∧ (∀ x, x < top → x ≠ b + 1 → x ≠ o → x ≠ b + 4 → x ≠ b + 5 → σ' x = σ x) ∧
      ((pDecl dec txt = none ∧ k = 1 ∧ dec' = dec) ∨ (∃ c par ms D, pDecl dec txt = some (c, par, ms) ∧ c < 10 ∧ dec c = some D ∧ k = 2 ∧ dec' = dec) ∨
       (∃ c par ms, pDecl dec txt = some (c, par, ms) ∧ c < 10 ∧ dec c = none ∧ (∀ p, par = some p → ∃ D, dec p = some D) ∧ ms.length ≤ 6 ∧ (∀ M ∈ ms, memOk M) ∧ distM ms ∧ k = 0 ∧ dec' = updD dec c (par, ms) ∧ g 0 = (ii ms.length).toInt64)) := by
  obtain ⟨s1, top1, sl1, a1, a2, a3, a4, a5⟩ := x_declare (cs := cs) (d := d - 1) (sl := sl) (by omega) hcs hS hx hR hB hT hC hO hr hb
  have keep : (∀ x, x ≠ b + 1 → x < top → s1 x = σ x) → ∀ e, X_cat ad (am_up s1 top1 e) b (top1 + 1) dec pl da ea := fun h e => hC.kept (by rw [am_up_ne _ _ (by omega), h _ (by omega) (by omega)]) (by rw [am_up_ne _ _ (by omega), h _ (by omega) (by omega)]) (by rw [am_up_ne _ _ (by omega), h _ (by omega) (by omega)]) (fun q g1 g2 => by rw [am_up_ne _ _ (by omega), h _ (by omega) (by omega)]) (by omega)
  rcases a5 with ⟨h1, h2, h3⟩ | ⟨c, par, ms, D, h1, h2, h3, h4, h5⟩ | ⟨c, par, ms, ea', h1, h2, h3, h4, h5, h6, h7, h8, h9, h10⟩
  · refine ⟨am_up s1 top1 (.inr (.inl (12, []))), 1, f, dec, da, ea, top1 + 1, sl1 + 6, ?_, by omega, by omega, by omega, a1.kept (am_up_ne _ _ (by omega)) (am_up_ne _ _ (by omega)), keep h2 _, ((am_up_ne _ _ (by omega)).trans (h2 o (by omega) (by omega))).trans hOo, fun x g0 g1 g2 g3 g4 => (am_up_ne _ _ (by omega)).trans (h2 x g1 g0), Or.inl ⟨h1, rfl, rfl⟩⟩
    refine x_n cd_i157_0 rfl rfl ?_
    refine x_ic cd_i157_1 (z := ii 0) rfl ?_
    refine x_n cd_i157_2 rfl rfl ?_
    show am_to cd_t _ _ 157 3 _ _ _ _ _ _
    refine x_catch (as' := []) (h := 11) cd_i157_3 hx (by omega) rfl rfl rfl rfl rfl rfl h3 (by unfold am_hd; rw [am_up_self]; rfl) ?_
    refine x_n cd_i157_11 rfl rfl ?_
    try dsimp only [List.set]
    refine x_ic cd_i157_12 (z := ii 1) rfl ?_
    show am_to cd_t _ _ 157 13 _ _ _ _ _ _
    exact x_end cd_i157_13 rfl rfl rfl
  · refine ⟨am_up s1 top1 (.inr (.inl (13, []))), 2, f, dec, da, ea, top1 + 1, sl1 + 6, ?_, by omega, by omega, by omega, a1.kept (am_up_ne _ _ (by omega)) (am_up_ne _ _ (by omega)), keep h4 _, ((am_up_ne _ _ (by omega)).trans (h4 o (by omega) (by omega))).trans hOo, fun x g0 g1 g2 g3 g4 => (am_up_ne _ _ (by omega)).trans (h4 x g1 g0), Or.inr (Or.inl ⟨c, par, ms, D, h1, h2, h3, rfl, rfl⟩)⟩
    refine x_n cd_i157_0 rfl rfl ?_
    refine x_ic cd_i157_1 (z := ii 0) rfl ?_
    refine x_n cd_i157_2 rfl rfl ?_
    show am_to cd_t _ _ 157 3 _ _ _ _ _ _
    refine x_catch (as' := []) (h := 14) cd_i157_3 hx (by omega) rfl rfl rfl rfl rfl rfl h5 (by unfold am_hd; rw [am_up_self]; rfl) ?_
    refine x_n cd_i157_14 rfl rfl ?_
    try dsimp only [List.set]
    refine x_ic cd_i157_15 (z := ii 2) rfl ?_
    show am_to cd_t _ _ 157 16 _ _ _ _ _ _
    exact x_end cd_i157_16 rfl rfl rfl
  · have o1 : s1 o = some (.inl (.long, 1, .inr (.inl f))) := (h9 o (by omega) (by omega) (by omega) (by omega)).trans hOo
    refine ⟨am_up s1 o (.inl (.long, 1, .inr (.inl (vp_updL f 0 (ii ms.length).toInt64)))), 0, _, updD dec c (par, ms), _, _, top1, sl1, ?_, by omega, by omega, by omega, a1.kept (am_up_ne _ _ (by omega)) (am_up_ne _ _ (by omega)), h8.kept (am_up_ne _ _ (by omega)) (am_up_ne _ _ (by omega)) (am_up_ne _ _ (by omega)) (fun q g1 g2 => am_up_ne _ _ (by omega)) (Nat.le_refl _), am_up_self _ _ _, fun x g0 g1 g2 g3 g4 => (am_up_ne _ _ g2).trans (h9 x g1 g3 g4 g0), Or.inr (Or.inr ⟨c, par, ms, h1, h2, h3, h4, h5, h6, h7, rfl, rfl, rfl⟩)⟩
    refine x_n cd_i157_0 rfl rfl ?_
    refine x_ic cd_i157_1 (z := ii 0) rfl ?_
    refine x_n cd_i157_2 rfl rfl ?_
    show am_to cd_t _ _ 157 3 _ _ _ _ _ _
    refine x_callv (as' := []) cd_i157_3 hx (by omega) rfl rfl rfl rfl rfl rfl h10 ?_
    refine x_n cd_i157_6 rfl rfl ?_
    show am_to cd_t _ _ 157 7 _ _ _ _ _ _
    refine x_lastore cd_i157_7 (i := 0) o1 (by decide) (by decide) ?_
    refine x_n cd_i157_8 rfl rfl ?_
    refine x_ic cd_i157_17 (z := ii 0) rfl ?_
    show am_to cd_t _ _ 157 18 _ _ _ _ _ _
    exact x_end cd_i157_18 rfl rfl rfl
end DE
