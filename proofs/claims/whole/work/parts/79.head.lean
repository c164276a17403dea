section RH
variable {cs : Nat → Value} {d b top sl : Nat} {σ : am_H} {ad : Nat → Nat} {hi : Nat} {dec : Nat → Option Dec} {pl : Int32} {da : Nat → Nat} {ea : Nat → Nat → Nat} {txt : List Nat}
theorem x_declO {o : Option Nat} (hC : X_cat ad σ b hi dec pl da ea) (ho : ∀ q, o = some q → q < 10) :
    am_to cd_t cs d 22 0 (am_ent 2 [.ref (b + 3), .int (oi o)]) [] σ top sl (.inl (some (va_rf (o.bind fun q => (dec q).map fun _ => da q))), σ, top, sl) := by
  have h := x_declared (cs := cs) (d := d) (top := top) (sl := sl) (c := oi o) hC
  cases o with
  | none =>
    have e : declM dec (oi none) = none := by
      unfold declM
      rw [if_neg (by decide)]
    rw [e] at h
    exact h
  | some q =>
    have hq := ho q rfl
    have e : declM dec (oi (some q)) = dec q := by
      unfold declM
      show (if 0 ≤ (ii q).toInt ∧ (ii q).toInt < 10 then dec (ii q).toNatClampNeg else none) = _
      rw [ii_toInt (by omega), ii_nn (by omega), if_pos (by omega)]
    rw [e] at h
    have e2 : (oi (some q)).toNatClampNeg = q := ii_nn (by omega)
    rw [e2] at h
    exact h
theorem x_head_tail {c r : Nat} {v2 : Option Value} {par : Option Nat} (hd : 2 < d) (hR : σ (b + 9) = some (.inr (.inl (5, [.ref (b + 1), .ref (b + 3)])))) (hB : X_buf σ b txt r) (hT : ∀ c ∈ txt, cok c) (hp : r ≤ txt.length) (hb : b + 114 ≤ top) :
    ∃ (σ' : am_H) (p' top' sl' : Nat) (rr : Option Nat), am_to cd_t cs d 32 67 [some (.ref (b + 9)), some (.int (ii c)), v2, some (va_rf (par.map da))] [] σ top sl (.inl (some (va_rf rr)), σ', top', sl') ∧ X_buf σ' b txt p' ∧ p' ≤ txt.length ∧ top ≤ top' ∧ top' ≤ top + 2 ∧ sl' ≤ sl + 10 ∧ (∀ x, x ≠ b + 1 → x < top → σ' x = σ x) ∧ ((rr = none ∧ ¬ txt.getD r 0 = 123) ∨ (txt.getD r 0 = 123 ∧ p' = r + 1 ∧ rr = some top ∧ decAt ad σ' top top' top c (par.map da) [] (fun _ => 0))) := by
  obtain ⟨s1, a1, a2, a3⟩ := x_take (cs := cs) (d := d - 1) (top := top) (sl := sl) (c := 123) (by omega) hB hT hp (by decide) (by decide)
  by_cases hc : txt.getD r 0 = 123
  · have hlt := getD_lt hc (by decide)
    rw [if_pos hc] at a1 a2
    obtain ⟨s2, hs2⟩ : ∃ z, z = am_up s1 top (.inr (.inl (4, [.int 0, .null, .null, .int 0]))) := ⟨_, rfl⟩
    have h2 : s2 top = some (.inr (.inl (4, [.int 0, .null, .null, .int 0]))) := by rw [hs2]; exact am_up_self _ _ _
    obtain ⟨s3, c1, c2, c3, c4⟩ := x_decInit (cs := cs) (d := d - 1) (top := top + 1) (sl := sl + 4) (e := top) (c := c) (par := par.map da) (by omega) (by omega) h2
    have f3 : ∀ x, x ≠ b + 1 → x < top → s3 x = σ x := fun x g1 g2 => by rw [c4 x (by omega) (by omega), hs2, am_up_ne _ _ (by omega)]; exact a3 x g1
    refine ⟨s3, r + 1, top + 2, sl + 10, some top, ?_, a2.kept (by rw [c4 _ (by omega) (by omega), hs2, am_up_ne _ _ (by omega)]) (by rw [c4 _ (by omega) (by omega), hs2, am_up_ne _ _ (by omega)]), by omega, by omega, by omega, by omega, f3, Or.inr ⟨hc, rfl, rfl, Nat.le_refl _, by omega, top + 1, _, by omega, by omega, c2, c3, by decide, fun i hi => absurd hi (Nat.not_lt_zero i)⟩⟩
    refine x_n cd_i32_67 rfl rfl ?_
    refine x_getf cd_i32_68 (by assumption) rfl rfl ?_
    refine x_bi cd_i32_71 (z := ii 123) (by decide) ?_
    show am_to cd_t _ _ 32 73 _ _ _ _ _ _
    refine x_callv (as' := [.int (ii 123)]) cd_i32_73 hB.1 (by omega) rfl rfl rfl rfl rfl rfl a1 ?_
    refine x_if_t cd_i32_76 (fun z => absurd (show (1 : Int32) = 0 from z) (by decide)) ?_
    refine x_new cd_i32_81 rfl ?_
    refine hs2 ▸ ?_
    cases par with
    | none =>
      refine x_n cd_i32_84 rfl rfl ?_
      refine x_n cd_i32_85 rfl rfl ?_
      refine x_n cd_i32_86 rfl rfl ?_
      show am_to cd_t _ _ 32 87 _ _ _ _ _ _
      refine x_calli (as' := [.int (ii c), .null]) (r := none) cd_i32_87 (by omega) rfl rfl rfl rfl rfl rfl c1 ?_
      exact x_end cd_i32_90 rfl rfl rfl
    | some q =>
      refine x_n cd_i32_84 rfl rfl ?_
      refine x_n cd_i32_85 rfl rfl ?_
      refine x_n cd_i32_86 rfl rfl ?_
      show am_to cd_t _ _ 32 87 _ _ _ _ _ _
      refine x_calli (as' := [.int (ii c), .ref (da q)]) (r := none) cd_i32_87 (by omega) rfl rfl rfl rfl rfl rfl c1 ?_
      exact x_end cd_i32_90 rfl rfl rfl
  · rw [if_neg hc] at a1 a2
    refine ⟨s1, r, top, sl, none, ?_, a2, hp, Nat.le_refl _, by omega, by omega, fun x g1 _ => a3 x g1, Or.inl ⟨rfl, hc⟩⟩
    refine x_n cd_i32_67 rfl rfl ?_
    refine x_getf cd_i32_68 (by assumption) rfl rfl ?_
    refine x_bi cd_i32_71 (z := ii 123) (by decide) ?_
    show am_to cd_t _ _ 32 73 _ _ _ _ _ _
    refine x_callv (as' := [.int (ii 123)]) cd_i32_73 hB.1 (by omega) rfl rfl rfl rfl rfl rfl a1 ?_
    refine x_if_f cd_i32_76 (fun z => z rfl) ?_
    refine x_n cd_i32_79 rfl rfl ?_
    show am_to cd_t _ _ 32 80 _ _ _ _ _ _
    exact x_end cd_i32_80 rfl rfl rfl
theorem x_readHead (hd : 2 < d) (hR : σ (b + 9) = some (.inr (.inl (5, [.ref (b + 1), .ref (b + 3)])))) (hB : X_buf σ b txt 0) (hT : ∀ c ∈ txt, cok c) (hC : X_cat ad σ b hi dec pl da ea) (hh : hi ≤ top) (hb : b + 114 ≤ top) :
    ∃ (σ' : am_H) (p' top' sl' : Nat) (rr : Option Nat), am_to cd_t cs d 32 0 (am_ent 4 [.ref (b + 9)]) [] σ top sl (.inl (some (va_rf rr)), σ', top', sl') ∧ X_buf σ' b txt p' ∧ p' ≤ txt.length ∧ top ≤ top' ∧ top' ≤ top + 2 ∧ sl' ≤ sl + 10 ∧ (∀ x, x ≠ b + 1 → x < top → σ' x = σ x) ∧ ((rr = none ∧ pHd dec txt = none) ∨ ∃ c par, pHd dec txt = some (c, par, p') ∧ rr = some top ∧ c < 10 ∧ (∀ p, par = some p → ∃ D, dec p = some D) ∧ decAt ad σ' top top' top c (par.map da) [] (fun _ => 0)) := by
  obtain ⟨s1, a1, a2, a3⟩ := x_takeClass (cs := cs) (d := d - 1) (top := top) (sl := sl) (by omega) hB hT (Nat.zero_le _)
  have r1 := (a3 (b + 9) (by omega)).trans hR
  have go1 : ∀ z : Int32, am_to cd_t cs (d - 1) 33 0 (am_ent 1 [.ref (b + 1)]) [] σ top sl (.inl (some (.int z)), s1, top, sl) → ∀ res, am_to cd_t cs d 32 10 [some (.ref (b + 9)), some (.int z), none, none] [.int (-1), .int z] s1 top sl res → am_to cd_t cs d 32 0 (am_ent 4 [.ref (b + 9)]) [] σ top sl res := by
    intro z hz res hh
    refine x_n cd_i32_0 rfl rfl ?_
    refine x_getf cd_i32_1 (by assumption) rfl rfl ?_
    show am_to cd_t _ _ 32 4 _ _ _ _ _ _
    refine x_callv (as' := []) cd_i32_4 hB.1 (by omega) rfl rfl rfl rfl rfl rfl hz ?_
    refine x_n cd_i32_7 rfl rfl ?_
    try dsimp only [List.set]
    refine x_n cd_i32_8 rfl rfl ?_
    refine x_ic cd_i32_9 (z := (-1)) rfl ?_
    show am_to cd_t _ _ 32 10 _ _ _ _ _ _
    exact hh
  unfold pHd
  cases hc : (tkC txt 0).1 with
  | none =>
    rw [hc] at a1
    refine ⟨s1, _, top, sl, none, go1 _ a1 _ ?_, a2, by rw [tkC_none hc]; omega, Nat.le_refl _, by omega, by omega, fun x g1 _ => a3 x g1, Or.inl ⟨rfl, rfl⟩⟩
    refine x_icmp_t cd_i32_10 rfl ?_
    refine x_ic cd_i32_29 (z := ii 0) rfl ?_
    refine x_n cd_i32_30 rfl rfl ?_
    try dsimp only [List.set]
    refine x_n cd_i32_31 rfl rfl ?_
    show am_to cd_t _ _ 32 32 _ _ _ _ _ _
    refine x_if_t cd_i32_32 rfl ?_
    refine x_n cd_i32_52 rfl rfl ?_
    refine x_n cd_i32_53 rfl rfl ?_
    try dsimp only [List.set]
    refine x_n cd_i32_54 rfl rfl ?_
    refine x_ic cd_i32_55 (z := (-1)) rfl ?_
    show am_to cd_t _ _ 32 56 _ _ _ _ _ _
    refine x_icmp_t cd_i32_56 rfl ?_
    refine x_n cd_i32_79 rfl rfl ?_
    show am_to cd_t _ _ 32 80 _ _ _ _ _ _
    exact x_end cd_i32_80 rfl rfl rfl
  | some c =>
    obtain ⟨e1, e2, e3⟩ := tkC_some hc
    rw [hc] at a1
    rw [e1] at a2
    obtain ⟨s2, b1, b2, b3⟩ := x_take (cs := cs) (d := d - 1) (top := top) (sl := sl) (c := 58) (by omega) a2 hT (by omega) (by decide) (by decide)
    have f2 : ∀ x, x ≠ b + 1 → s2 x = σ x := fun x g1 => (b3 x g1).trans (a3 x g1)
    have r2 := (f2 (b + 9) (by omega)).trans hR
    have C2 : X_cat ad s2 b hi dec pl da ea := hC.kept (f2 _ (by omega)) (f2 _ (by omega)) (f2 _ (by omega)) (fun q g1 g2 => f2 q (by omega)) (Nat.le_refl _)
    have hcn : ¬ ii c = -1 := ii_ne1 (by omega)
    have go2 : ∀ z : Int32, am_to cd_t cs (d - 1) 34 0 (am_ent 2 [.ref (b + 1), .int (ii 58)]) [] s1 top sl (.inl (some (.int z)), s2, top, sl) → ∀ res, am_to cd_t cs d 32 22 [some (.ref (b + 9)), some (.int (ii c)), none, none] [.int z] s2 top sl res → am_to cd_t cs d 32 0 (am_ent 4 [.ref (b + 9)]) [] σ top sl res := by
      intro z hz res hh
      refine go1 _ a1 res (x_icmp_f cd_i32_10 hcn ?_)
      refine x_n cd_i32_13 rfl rfl ?_
      refine x_getf cd_i32_14 (by assumption) rfl rfl ?_
      refine x_bi cd_i32_17 (z := ii 58) (by decide) ?_
      show am_to cd_t _ _ 32 19 _ _ _ _ _ _
      refine x_callv (as' := [.int (ii 58)]) cd_i32_19 a2.1 (by omega) rfl rfl rfl rfl rfl rfl hz ?_
      exact hh
    dsimp only
    by_cases h58 : txt.getD 1 0 = 58
    · have hlt := getD_lt h58 (by decide)
      rw [show (0 : Nat) + 1 = 1 from rfl] at b1 b2
      rw [if_pos h58] at b1 b2
      rw [if_pos h58]
      obtain ⟨s3, c1, c2, c3⟩ := x_takeClass (cs := cs) (d := d - 1) (top := top) (sl := sl) (by omega) b2 hT (by omega)
      have f3 : ∀ x, x ≠ b + 1 → s3 x = σ x := fun x g1 => (c3 x g1).trans (f2 x g1)
      have r3 := (f3 (b + 9) (by omega)).trans hR
      have C3 : X_cat ad s3 b hi dec pl da ea := hC.kept (f3 _ (by omega)) (f3 _ (by omega)) (f3 _ (by omega)) (fun q g1 g2 => f3 q (by omega)) (Nat.le_refl _)
      have hdec := x_declO (cs := cs) (d := d - 1) (top := top) (sl := sl) (o := (tkC txt 2).1) C3 (fun q hq => (tkC_some hq).2.1)
      generalize hP : ((tkC txt 2).1.bind fun q => (dec q).map fun _ => da q) = P at hdec
      have go3 : ∀ res, am_to cd_t cs d 32 60 [some (.ref (b + 9)), some (.int (ii c)), some (.int (ii 1)), some (va_rf P)] [.int (ii 1)] s3 top sl res → am_to cd_t cs d 32 0 (am_ent 4 [.ref (b + 9)]) [] σ top sl res := by
        intro res hh
        refine go2 _ b1 res (x_if_f cd_i32_22 (fun z => absurd (show (1 : Int32) = 0 from z) (by decide)) ?_)
        refine x_ic cd_i32_25 (z := ii 1) rfl ?_
        refine x_n cd_i32_26 rfl rfl ?_
        refine x_n cd_i32_30 rfl rfl ?_
        try dsimp only [List.set]
        refine x_n cd_i32_31 rfl rfl ?_
        show am_to cd_t _ _ 32 32 _ _ _ _ _ _
        refine x_if_f cd_i32_32 (fun z => absurd (show (1 : Int32) = 0 from z) (by decide)) ?_
        refine x_n cd_i32_35 rfl rfl ?_
        refine x_getf cd_i32_36 (by assumption) rfl rfl ?_
        refine x_n cd_i32_39 rfl rfl ?_
        refine x_getf cd_i32_40 (by assumption) rfl rfl ?_
        show am_to cd_t _ _ 32 43 _ _ _ _ _ _
        refine x_callv (as' := []) cd_i32_43 b2.1 (by omega) rfl rfl rfl rfl rfl rfl c1 ?_
        refine x_callv (as' := [.int (oi (tkC txt 2).1)]) cd_i32_46 C3.1 (by omega) rfl rfl rfl rfl rfl rfl hdec ?_
        cases P with
        | none =>
          refine x_n cd_i32_49 rfl rfl ?_
          refine x_n cd_i32_53 rfl rfl ?_
          try dsimp only [List.set]
          refine x_n cd_i32_54 rfl rfl ?_
          refine x_ic cd_i32_55 (z := (-1)) rfl ?_
          show am_to cd_t _ _ 32 56 _ _ _ _ _ _
          refine x_icmp_f cd_i32_56 hcn ?_
          refine x_n cd_i32_59 rfl rfl ?_
          show am_to cd_t _ _ 32 60 _ _ _ _ _ _
          exact hh
        | some q =>
          refine x_n cd_i32_49 rfl rfl ?_
          refine x_n cd_i32_53 rfl rfl ?_
          try dsimp only [List.set]
          refine x_n cd_i32_54 rfl rfl ?_
          refine x_ic cd_i32_55 (z := (-1)) rfl ?_
          show am_to cd_t _ _ 32 56 _ _ _ _ _ _
          refine x_icmp_f cd_i32_56 hcn ?_
          refine x_n cd_i32_59 rfl rfl ?_
          show am_to cd_t _ _ 32 60 _ _ _ _ _ _
          exact hh
      have nul : P = none → am_to cd_t cs d 32 0 (am_ent 4 [.ref (b + 9)]) [] σ top sl (.inl (some .null), s3, top, sl) := by
        intro z
        rw [z] at go3
        refine go3 _ (x_if_f cd_i32_60 (fun z => absurd (show (1 : Int32) = 0 from z) (by decide)) ?_)
        refine x_n cd_i32_63 rfl rfl ?_
        show am_to cd_t _ _ 32 64 _ _ _ _ _ _
        refine x_null_t cd_i32_64 ?_
        refine x_n cd_i32_79 rfl rfl ?_
        show am_to cd_t _ _ 32 80 _ _ _ _ _ _
        exact x_end cd_i32_80 rfl rfl rfl
      cases hq : (tkC txt 2).1 with
      | none =>
        rw [hq] at hP
        exact ⟨s3, _, top, sl, none, nul hP.symm, c2, by rw [tkC_none hq]; omega, Nat.le_refl _, by omega, by omega, fun x g1 _ => f3 x g1, Or.inl ⟨rfl, rfl⟩⟩
      | some q =>
        obtain ⟨u1, u2, u3⟩ := tkC_some hq
        rw [hq] at hP
        rw [u1] at c2
        dsimp only
        cases hD : dec q with
        | none =>
          have hP : (dec q).map (fun _ => da q) = P := hP
          rw [hD] at hP
          exact ⟨s3, _, top, sl, none, nul hP.symm, c2, by omega, Nat.le_refl _, by omega, by omega, fun x g1 _ => f3 x g1, Or.inl ⟨rfl, rfl⟩⟩
        | some D =>
          have hP : (dec q).map (fun _ => da q) = P := hP
          rw [hD] at hP
          have hP : some (da q) = P := hP
          rw [if_pos (show (some D).isSome = true from rfl)]
          obtain ⟨s4, p4, top4, sl4, rr, k1, k2, k3, k4, k5, k6, k7, k8⟩ := x_head_tail (cs := cs) (d := d) (top := top) (sl := sl) (c := c) (v2 := some (.int (ii 1))) (par := some q) (ad := ad) (da := da) (by omega) r3 c2 hT (by omega) hb
          rw [← hP] at go3
          refine ⟨s4, p4, top4, sl4, rr, go3 _ ?_, k2, k3, k4, k5, k6, fun x g1 g2 => (k7 x g1 g2).trans (f3 x g1), ?_⟩
          · refine x_if_f cd_i32_60 (fun z => absurd (show (1 : Int32) = 0 from z) (by decide)) ?_
            refine x_n cd_i32_63 rfl rfl ?_
            show am_to cd_t _ _ 32 64 _ _ _ _ _ _
            refine x_null_f cd_i32_64 ?_
            exact k1
          · rcases k8 with ⟨l1, l2⟩ | ⟨l1, l2, l3, l4⟩
            · exact Or.inl ⟨l1, if_neg l2⟩
            · refine Or.inr ⟨c, some q, ?_, l3, e2, (fun p hp => ⟨D, by rw [← Option.some.inj hp]; exact hD⟩), l4⟩
              rw [if_pos l1, l2]
    · rw [show (0 : Nat) + 1 = 1 from rfl] at b1 b2
      rw [if_neg h58] at b1 b2
      rw [if_neg h58]
      obtain ⟨s4, p4, top4, sl4, rr, k1, k2, k3, k4, k5, k6, k7, k8⟩ := x_head_tail (cs := cs) (d := d) (top := top) (sl := sl) (c := c) (v2 := some (.int (ii 0))) (par := none) (ad := ad) (da := da) (by omega) r2 b2 hT (by omega) hb
      refine ⟨s4, p4, top4, sl4, rr, go2 _ b1 _ ?_, k2, k3, k4, k5, k6, fun x g1 g2 => (k7 x g1 g2).trans (f2 x g1), ?_⟩
      · refine x_if_t cd_i32_22 rfl ?_
        refine x_ic cd_i32_29 (z := ii 0) rfl ?_
        refine x_n cd_i32_30 rfl rfl ?_
        try dsimp only [List.set]
        refine x_n cd_i32_31 rfl rfl ?_
        show am_to cd_t _ _ 32 32 _ _ _ _ _ _
        refine x_if_t cd_i32_32 rfl ?_
        refine x_n cd_i32_52 rfl rfl ?_
        refine x_n cd_i32_53 rfl rfl ?_
        try dsimp only [List.set]
        refine x_n cd_i32_54 rfl rfl ?_
        refine x_ic cd_i32_55 (z := (-1)) rfl ?_
        show am_to cd_t _ _ 32 56 _ _ _ _ _ _
        refine x_icmp_f cd_i32_56 hcn ?_
        refine x_n cd_i32_59 rfl rfl ?_
        show am_to cd_t _ _ 32 60 _ _ _ _ _ _
        refine x_if_t cd_i32_60 rfl ?_
        exact k1
      · rcases k8 with ⟨l1, l2⟩ | ⟨l1, l2, l3, l4⟩
        · exact Or.inl ⟨l1, if_neg l2⟩
        · refine Or.inr ⟨c, none, ?_, l3, e2, (fun p hp => by cases hp), l4⟩
          rw [if_pos l1, l2]
end RH
/-! a class is declared -/
theorem bit1 (z : Int32) : z &&& 1 = 1 ↔ z.toBitVec.getLsbD 0 = true := by
  rw [← Int32.toBitVec_inj, Int32.toBitVec_and, show (1 : Int32).toBitVec = 1#32 from rfl, BitVec.and_one_eq_setWidth_ofBool_getLsbD]
  cases z.toBitVec.getLsbD 0 with
  | false => decide
  | true => decide
theorem bit_or (x y s : Int32) : ((x ||| y) >>> s) &&& 1 = 1 ↔ ((x >>> s) &&& 1 = 1 ∨ (y >>> s) &&& 1 = 1) := by
  rw [Int32.shiftRight_or, bit1, bit1, bit1, Int32.toBitVec_or, BitVec.getLsbD_or, Bool.or_eq_true]
def updD (dec : Nat → Option Dec) (c : Nat) (D : Dec) : Nat → Option Dec := fun k => if k = c then some D else dec k
theorem chain_deep {dec : Nat → Option Dec} : ∀ (n c : Nat), deep dec n c → chain dec (n + 1) c = chain dec n c
  | 0, c, h => absurd h id
  | n + 1, c, ⟨hc, h⟩ => by
    rw [chain_succ dec (n + 1), chain_succ dec n]
    cases ha : abv dec c with
    | none => rfl
    | some p =>
      dsimp only
      unfold abv at ha
      obtain ⟨D, hD, hp⟩ := Option.bind_eq_some_iff.mp ha
      rw [chain_deep n p (h D p hD hp)]
section CU
variable {dec : Nat → Option Dec} {rk : Nat → Nat} {c : Nat} {D : Dec}
theorem chain_upd (hr : ranked dec rk) (hn : dec c = none) : ∀ (n x : Nat), x ≠ c → chain (updD dec c D) n x = chain dec n x
  | 0, x, _ => rfl
  | n + 1, x, hx => by
    rw [chain_succ, chain_succ]
    have e : abv (updD dec c D) x = abv dec x := by
      unfold abv updD
      rw [if_neg hx]
    rw [e]
    cases ha : abv dec x with
    | none => rfl
    | some p =>
      dsimp only
      unfold abv at ha
      obtain ⟨D', hD', hp⟩ := Option.bind_eq_some_iff.mp ha
      obtain ⟨-, ⟨D2, hD2⟩, -⟩ := (hr x D' hD').2.2 p hp
      rw [chain_upd hr hn n p (fun z => by rw [z, hn] at hD2; cases hD2)]
theorem fit_upd_ne (hr : ranked dec rk) (hn : dec c = none) {t w : Nat} (ht : ¬ t = 3 + c) : fitM (updD dec c D) t w ↔ fitM dec t w := by
  unfold fitM
  by_cases h3 : 3 ≤ t
  · rw [chain_upd hr hn 11 (t - 3) (by omega)]
  · constructor
    · rintro (h | h | h)
      · exact Or.inl h
      · exact Or.inr (Or.inl h)
      · omega
    · rintro (h | h | h)
      · exact Or.inl h
      · exact Or.inr (Or.inl h)
      · omega
theorem fit_upd_eq (hr : ranked dec rk) (hn : dec c = none) {w : Nat} : fitM (updD dec c D) (3 + c) w ↔ (fitM dec (3 + c) w ∨ ∃ p, D.1 = some p ∧ (∃ D', dec p = some D') ∧ fitM dec (3 + p) w) ∨ ∃ p, D.1 = some p ∧ dec p = none ∧ 3 ≤ w ∧ w - 3 ∈ chain (updD dec c D) 10 p := by
  have e0 : chain dec 11 c = [c] := by
    rw [chain_succ]
    unfold abv
    rw [hn]
    rfl
  have e1 : chain (updD dec c D) 11 c = c :: (match D.1 with | none => [] | some p => chain (updD dec c D) 10 p) := by
    rw [chain_succ]
    unfold abv updD
    rw [if_pos rfl]
    rfl
  unfold fitM
  rw [show 3 + c - 3 = c by omega, e0, e1, List.mem_singleton, List.mem_cons]
  cases hp : D.1 with
  | none =>
    constructor
    · rintro (h | h | ⟨h1, h2, h | h⟩)
      · exact Or.inl (Or.inl (Or.inl h))
      · omega
      · exact Or.inl (Or.inl (Or.inl (by omega)))
      · cases h
    · rintro ((( h | h | ⟨h1, h2, h⟩) | ⟨p, h, -⟩) | ⟨p, h, -⟩)
      · exact Or.inl h
      · omega
      · exact Or.inl (by omega)
      · cases h
      · cases h
  | some p =>
    dsimp only
    cases hD' : dec p with
    | none =>
      constructor
      · rintro (h | h | ⟨h1, h2, h | h⟩)
        · exact Or.inl (Or.inl (Or.inl h))
        · omega
        · exact Or.inl (Or.inl (Or.inl (by omega)))
        · exact Or.inr ⟨p, rfl, hD', h2, h⟩
      · rintro ((( h | h | ⟨h1, h2, h⟩) | ⟨q, h, ⟨D', h'⟩, h''⟩) | ⟨q, h, h', h2, h''⟩)
        · exact Or.inl h
        · omega
        · exact Or.inl (by omega)
        · rw [← Option.some.inj h, hD'] at h'
          cases h'
        · rw [← Option.some.inj h] at h''
          exact Or.inr (Or.inr ⟨by omega, h2, Or.inr h''⟩)
    | some D' =>
      have hpc : p ≠ c := fun z => by rw [z, hn] at hD'; cases hD'
      have hrp := hr p D' hD'
      have e2 : chain (updD dec c D) 10 p = chain dec 11 p := by
        rw [chain_upd hr hn 10 p hpc, chain_deep 10 p (deep_of hr 10 p hrp.1 (fun _ _ => hrp.2.1) (by decide))]
      have e3 : p ∈ chain dec 11 p := by
        rw [chain_succ]
        exact List.mem_cons_self
      rw [e2]
      constructor
      · rintro (h | h | ⟨h1, h2, h | h⟩)
        · exact Or.inl (Or.inl (Or.inl h))
        · omega
        · exact Or.inl (Or.inl (Or.inl (by omega)))
        · exact Or.inl (Or.inr ⟨p, rfl, ⟨D', hD'⟩, Or.inr (Or.inr ⟨by omega, h2, by rw [show 3 + p - 3 = p by omega]; exact h⟩)⟩)
      · rintro ((( h | h | ⟨h1, h2, h⟩) | ⟨q, h, -, h''⟩) | ⟨q, h, h', -⟩)
        · exact Or.inl h
        · omega
        · exact Or.inl (by omega)
        · rw [← Option.some.inj h] at h''
          rcases h'' with h | h | ⟨h1, h2, h⟩
          · exact Or.inr (Or.inr ⟨by omega, by omega, Or.inr (by rw [show w - 3 = p by omega]; exact e3)⟩)
          · omega
          · rw [show 3 + p - 3 = p by omega] at h
            exact Or.inr (Or.inr ⟨by omega, h2, Or.inr h⟩)
        · rw [← Option.some.inj h, hD'] at h'
          cases h'
end CU
