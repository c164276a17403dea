/-- a whole expression: its type and cost -/
def pChk (dec : Nat → Option Dec) (pl : Int32) (vs : List (List Nat × Nat)) (txt : List Nat) : Option (Nat × Nat) := match exprP dec pl vs txt 7 0 with
  | none => none
  | some R => if R.2.1 = txt.length then some (R.1, R.2.2) else none
section EW
variable {cs : Nat → Value} {b : Nat} {ad : Nat → Nat} {hi : Nat} {dec : Nat → Option Dec} {pl : Int32} {da : Nat → Nat} {ea : Nat → Nat → Nat} {rk : Nat → Nat} {vs : List (List Nat × Nat)} {txt : List Nat}
theorem x_sels {E : Nat → ERes} {dep dm : Nat} (hcs : csOk cs ad) (hT : ∀ c ∈ txt, cok c) (hO : catOk dec) (hr : ranked dec rk) (hE : XExp cs ad b hi dec pl da ea vs txt (dep + 1) E dm) :
    ∀ (f i : Nat) (d top sl : Nat) (σ : am_H) (t q k kk : Nat), dm + 4 < d → 6 < d → i + f = 120 → t < 13 → envX cs ad b hi dec pl da ea vs σ → X_er σ b (k + kk) → X_buf σ b txt q → q ≤ txt.length →
    ∃ (σ' : am_H) (p' k' : Nat), am_to cd_t cs d 89 16 [some (.ref (b + 10)), some (.int (ii dep)), some (.int (ii t)), some (.int (ii i))] [] σ top sl (.inl (some (.int (oi ((selsP dec pl txt E f t q kk).map (fun R => R.1))))), σ', top, sl) ∧ X_buf σ' b txt p' ∧ p' ≤ txt.length ∧ X_er σ' b k' ∧ (∀ R, selsP dec pl txt E f t q kk = some R → p' = R.2.1 ∧ k' = k + R.2.2 ∧ R.1 < 13) ∧ ∀ x, x ≠ b + 1 → x ≠ b + 10 → σ' x = σ x := by
  intro f
  induction f with
  | zero =>
    intro i d top sl σ t q k kk hd hd6 hi ht hV hK hB hq
    refine ⟨σ, q, k + kk, ?_, hB, hq, hK, (fun R hR => by rw [← Option.some.inj hR]; exact ⟨rfl, rfl, ht⟩), fun _ _ _ => rfl⟩
    refine x_n cd_i89_16 rfl rfl ?_
    refine x_bi cd_i89_17 (z := ii 120) (by decide) ?_
    show am_to cd_t _ _ 89 19 _ _ _ _ _ _
    refine x_icmp_t cd_i89_19 ((ii_le (by decide) (by omega)).mpr (by omega)) ?_
    refine x_n cd_i89_52 rfl rfl ?_
    show am_to cd_t _ _ 89 53 _ _ _ _ _ _
    exact x_end cd_i89_53 rfl rfl rfl
  | succ f ih =>
    intro i d top sl σ t q k kk hd hd6 hi ht hV hK hB hq
    obtain ⟨s1, a1, a2, a3⟩ := x_take (cs := cs) (d := d - 1) (top := top) (sl := sl) (c := 46) (by omega) hB hT hq (by decide) (by decide)
    have K1 : X_er s1 b (k + kk) := hK.kept (a3 _ (by omega))
    have V1 := hV.kept (σ' := s1) (fun x h1 _ => a3 x h1)
    have go1 : ∀ z : Int32, am_to cd_t cs (d - 1) 34 0 (am_ent 2 [.ref (b + 1), .int (ii 46)]) [] σ top sl (.inl (some (.int z)), s1, top, sl) → ∀ res, am_to cd_t cs d 89 36 [some (.ref (b + 10)), some (.int (ii dep)), some (.int (ii t)), some (.int (ii i))] [.int z] s1 top sl res → am_to cd_t cs d 89 16 [some (.ref (b + 10)), some (.int (ii dep)), some (.int (ii t)), some (.int (ii i))] [] σ top sl res := by
      intro z hz res hh
      refine x_n cd_i89_16 rfl rfl ?_
      refine x_bi cd_i89_17 (z := ii 120) (by decide) ?_
      show am_to cd_t _ _ 89 19 _ _ _ _ _ _
      refine x_icmp_f cd_i89_19 (fun z => by have := (ii_le (by decide) (by omega)).mp (show ii 120 ≤ ii i from z); omega) ?_
      refine x_n cd_i89_22 rfl rfl ?_
      refine x_ic cd_i89_23 (z := (-1)) rfl ?_
      show am_to cd_t _ _ 89 24 _ _ _ _ _ _
      refine x_icmp_f cd_i89_24 (ii_ne1 (show t < 2147483648 by omega)) ?_
      refine x_n cd_i89_27 rfl rfl ?_
      refine x_getf cd_i89_28 (by assumption) rfl rfl ?_
      refine x_bi cd_i89_31 (z := ii 46) (by decide) ?_
      show am_to cd_t _ _ 89 33 _ _ _ _ _ _
      refine x_callv (as' := [.int (ii 46)]) cd_i89_33 hB.1 (by omega) rfl rfl rfl rfl rfl rfl hz ?_
      exact hh
    rw [selsP]
    by_cases h46 : txt.getD q 0 = 46
    · have hlt := getD_lt h46 (by decide)
      rw [if_pos h46] at a1 a2 ⊢
      obtain ⟨s2, p2, k2, c1, c2, c3, c4, c5, c6⟩ := x_selection (cs := cs) (d := d - 1) (top := top) (sl := sl) (t := t) (by omega) (by omega) hcs hT hO hr hE ht V1 K1 a2 (by omega)
      have f2 : ∀ y, y ≠ b + 1 → y ≠ b + 10 → s2 y = σ y := fun y h1 h2 => (c6 y h1 h2).trans (a3 y h1)
      have go2 : ∀ z : Int32, am_to cd_t cs (d - 1) 97 0 (am_ent 4 [.ref (b + 10), .int (ii t), .int (ii dep)]) [] s1 top sl (.inl (some (.int z)), s2, top, sl) → ∀ res, am_to cd_t cs d 89 16 [some (.ref (b + 10)), some (.int (ii dep)), some (.int z), some (.int (ii (i + 1)))] [] s2 top sl res → am_to cd_t cs d 89 16 [some (.ref (b + 10)), some (.int (ii dep)), some (.int (ii t)), some (.int (ii i))] [] σ top sl res := by
        intro z hz res hh
        refine go1 _ a1 res (x_if_f cd_i89_36 (fun z => absurd (show (1 : Int32) = 0 from z) (by decide)) ?_)
        refine x_n cd_i89_39 rfl rfl ?_
        refine x_n cd_i89_40 rfl rfl ?_
        refine x_n cd_i89_41 rfl rfl ?_
        show am_to cd_t _ _ 89 42 _ _ _ _ _ _
        refine x_callv (as' := [.int (ii t), .int (ii dep)]) cd_i89_42 K1 (by omega) rfl rfl rfl rfl rfl rfl hz ?_
        refine x_n cd_i89_45 rfl rfl ?_
        try dsimp only [List.set]
        show am_to cd_t _ _ 89 46 _ _ _ _ _ _
        refine x_iinc cd_i89_46 rfl (ii_add _ 1) rfl ?_
        refine x_n cd_i89_49 rfl rfl ?_
        show am_to cd_t _ _ 89 16 _ _ _ _ _ _
        exact hh
      cases hR : selP dec pl txt E t (q + 1) with
      | none =>
        rw [hR] at c1
        refine ⟨s2, p2, k2, go2 _ c1 _ ?_, c2, c3, c4, (fun R hR => by cases hR), f2⟩
        have fin : am_to cd_t cs d 89 52 [some (.ref (b + 10)), some (.int (ii dep)), some (.int (-1)), some (.int (ii (i + 1)))] [] s2 top sl (.inl (some (.int (-1))), s2, top, sl) := by
          refine x_n cd_i89_52 rfl rfl ?_
          show am_to cd_t _ _ 89 53 _ _ _ _ _ _
          exact x_end cd_i89_53 rfl rfl rfl
        refine x_n cd_i89_16 rfl rfl ?_
        refine x_bi cd_i89_17 (z := ii 120) (by decide) ?_
        show am_to cd_t _ _ 89 19 _ _ _ _ _ _
        refine x_icmp cd_i89_19 (fun _ => fin) (fun _ => ?_)
        refine x_n cd_i89_22 rfl rfl ?_
        refine x_ic cd_i89_23 (z := (-1)) rfl ?_
        show am_to cd_t _ _ 89 24 _ _ _ _ _ _
        exact x_icmp_t cd_i89_24 rfl fin
      | some R =>
        obtain ⟨y1, y2, y3⟩ := c5 R hR
        rw [hR] at c1
        dsimp only
        have K2 : X_er s2 b (k + (kk + R.2.2)) := by
          rw [← Nat.add_assoc, ← y2]
          exact c4
        rw [y1] at c2 c3
        obtain ⟨s3, p3, k3, t1, t2, t3, t4, t5, t6⟩ := ih (i + 1) d top sl s2 R.1 R.2.1 k (kk + R.2.2) hd hd6 (by omega) y3 (hV.kept f2) K2 c2 c3
        exact ⟨s3, p3, k3, go2 _ c1 _ t1, t2, t3, t4, t5, fun y h1 h2 => (t6 y h1 h2).trans (f2 y h1 h2)⟩
    · rw [if_neg h46] at a1 a2 ⊢
      refine ⟨s1, q, k + kk, go1 _ a1 _ (x_if_t cd_i89_36 rfl ?_), a2, hq, K1, (fun R hR => by rw [← Option.some.inj hR]; exact ⟨rfl, rfl, ht⟩), fun y h1 _ => a3 y h1⟩
      refine x_n cd_i89_52 rfl rfl ?_
      show am_to cd_t _ _ 89 53 _ _ _ _ _ _
      exact x_end cd_i89_53 rfl rfl rfl
theorem x_expr (hcs : csOk cs ad) (hT : ∀ c ∈ txt, cok c) (hO : catOk dec) (hr : ranked dec rk) : ∀ (n dep : Nat), dep + n = 7 → XExp cs ad b hi dec pl da ea vs txt dep (exprP dec pl vs txt n) (6 + 4 * n) := by
  intro n
  induction n with
  | zero =>
    intro dep hdep d top sl σ p k hd hV hK hB hp
    refine ⟨σ, p, k, ?_, hB, hp, hK, (fun R hR => by cases hR), fun _ _ _ => rfl⟩
    refine x_n cd_i89_0 rfl rfl ?_
    refine x_bi cd_i89_1 (z := ii 6) (by decide) ?_
    show am_to cd_t _ _ 89 3 _ _ _ _ _ _
    refine x_icmp_f cd_i89_3 (fun z => by have := (ii_le (by omega) (by decide)).mp (show ii dep ≤ ii 6 from z); omega) ?_
    refine x_ic cd_i89_6 (z := (-1)) rfl ?_
    show am_to cd_t _ _ 89 7 _ _ _ _ _ _
    exact x_end cd_i89_7 rfl rfl rfl
  | succ n ih =>
    intro dep hdep d top sl σ p k hd hV hK hB hp
    have hE := ih (dep + 1) (by omega)
    obtain ⟨s1, p1, k1, c1, c2, c3, c4, c5, c6⟩ := x_exprHead (cs := cs) (d := d - 1) (top := top) (sl := sl) (by omega) (by omega) hcs hT hO hr hE hV hK hB hp
    have go : ∀ z : Int32, am_to cd_t cs (d - 1) 90 0 (am_ent 4 [.ref (b + 10), .int (ii dep)]) [] σ top sl (.inl (some (.int z)), s1, top, sl) → ∀ res, am_to cd_t cs d 89 16 [some (.ref (b + 10)), some (.int (ii dep)), some (.int z), some (.int (ii 0))] [] s1 top sl res → am_to cd_t cs d 89 0 (am_ent 4 [.ref (b + 10), .int (ii dep)]) [] σ top sl res := by
      intro z hz res hh
      refine x_n cd_i89_0 rfl rfl ?_
      refine x_bi cd_i89_1 (z := ii 6) (by decide) ?_
      show am_to cd_t _ _ 89 3 _ _ _ _ _ _
      refine x_icmp_t cd_i89_3 ((ii_le (by omega) (by decide)).mpr (by omega)) ?_
      refine x_n cd_i89_8 rfl rfl ?_
      refine x_n cd_i89_9 rfl rfl ?_
      show am_to cd_t _ _ 89 10 _ _ _ _ _ _
      refine x_callv (as' := [.int (ii dep)]) cd_i89_10 hK (by omega) rfl rfl rfl rfl rfl rfl hz ?_
      refine x_n cd_i89_13 rfl rfl ?_
      try dsimp only [List.set]
      refine x_ic cd_i89_14 (z := ii 0) rfl ?_
      refine x_n cd_i89_15 rfl rfl ?_
      try dsimp only [List.set]
      show am_to cd_t _ _ 89 16 _ _ _ _ _ _
      exact hh
    rw [exprP]
    cases hR : headP dec pl vs txt (exprP dec pl vs txt n) p with
    | none =>
      rw [hR] at c1
      refine ⟨s1, p1, k1, go _ c1 _ ?_, c2, c3, c4, (fun R hR => by cases hR), c6⟩
      refine x_n cd_i89_16 rfl rfl ?_
      refine x_bi cd_i89_17 (z := ii 120) (by decide) ?_
      show am_to cd_t _ _ 89 19 _ _ _ _ _ _
      refine x_icmp_f cd_i89_19 (fun z => absurd (show ii 120 ≤ ii 0 from z) (by decide)) ?_
      refine x_n cd_i89_22 rfl rfl ?_
      refine x_ic cd_i89_23 (z := (-1)) rfl ?_
      show am_to cd_t _ _ 89 24 _ _ _ _ _ _
      refine x_icmp_t cd_i89_24 rfl ?_
      refine x_n cd_i89_52 rfl rfl ?_
      show am_to cd_t _ _ 89 53 _ _ _ _ _ _
      exact x_end cd_i89_53 rfl rfl rfl
    | some R =>
      obtain ⟨y1, y2, y3⟩ := c5 R hR
      rw [hR] at c1
      rw [y1] at c2 c3
      rw [y2] at c4
      obtain ⟨s3, p3, k3, t1, t2, t3, t4, t5, t6⟩ := x_sels (cs := cs) hcs hT hO hr hE 120 0 d top sl s1 R.1 R.2.1 k R.2.2 (by omega) (by omega) rfl y3 (hV.kept c6) c4 c2 c3
      exact ⟨s3, p3, k3, go _ c1 _ t1, t2, t3, t4, t5, fun y h1 h2 => (t6 y h1 h2).trans (c6 y h1 h2)⟩
theorem x_check {d top sl k0 : Nat} {σ : am_H} {v : Value} (hd : 40 < d) (hcs : csOk cs ad) (hT : ∀ c ∈ txt, cok c) (hO : catOk dec) (hr : ranked dec rk) (hx : X_o σ b v) (hV : envX cs ad b hi dec pl da ea vs σ) (hK : X_er σ b k0) (hB : X_buf σ b txt 0) :
    ∃ (σ' : am_H) (k : Nat), X_buf σ' b [] 0 ∧ X_er σ' b k ∧ (∀ x, x ≠ b → x ≠ b + 1 → x ≠ b + 10 → σ' x = σ x) ∧
      ((pChk dec pl vs txt = none ∧ X_o σ' b v ∧ am_to cd_t cs d 87 0 (am_ent 2 [.ref b]) [] σ top sl (.inr top, am_up σ' top (.inr (.inl (12, []))), top + 1, sl + 6)) ∨
       (∃ R, pChk dec pl vs txt = some R ∧ R.1 < 13 ∧ X_o σ' b (.int (ii R.2)) ∧ am_to cd_t cs d 87 0 (am_ent 2 [.ref b]) [] σ top sl (.inl (some (.int (ii R.1))), σ', top, sl))) := by
  obtain ⟨s1, hs1⟩ : ∃ z, z = am_up σ (b + 10) (.inr (.inl (6, [.ref (b + 1), .ref (b + 3), .ref (b + 6), .int (ii 0)]))) := ⟨_, rfl⟩
  have K1 : X_er s1 b 0 := by rw [hs1]; exact am_up_self _ _ _
  have f1 : ∀ y, y ≠ b + 10 → s1 y = σ y := fun y h => by rw [hs1, am_up_ne _ _ h]
  have V1 := hV.kept (σ' := s1) (fun y _ h => f1 y h)
  have B1 : X_buf s1 b txt 0 := hB.kept (f1 _ (by omega)) (f1 _ (by omega))
  obtain ⟨s2, p2, k2, c1, c2, c3, c4, c5, c6⟩ := x_expr (cs := cs) hcs hT hO hr 7 0 rfl (d - 2) top sl s1 0 0 (by omega) V1 K1 B1 (Nat.zero_le _)
  have hend := x_isAtEnd (cs := cs) (d := d - 2) (top := top) (sl := sl) c2 c3
  obtain ⟨s3, e1, e2, e3⟩ := x_clear (cs := cs) (d := d - 1) (top := top) (sl := sl) c2
  have f2 : ∀ y, y ≠ b + 1 → y ≠ b + 10 → s2 y = σ y := fun y h1 h2 => (c6 y h1 h2).trans (f1 y h2)
  have f3 : ∀ y, y ≠ b + 1 → y ≠ b + 10 → s3 y = σ y := fun y h1 h2 => (e3 y h1).trans (f2 y h1 h2)
  have x2 : X_o s2 b v := (f2 b (by omega) (by omega)).trans hx
  have x3 : X_o s3 b v := (f3 b (by omega) (by omega)).trans hx
  have K3 : X_er s3 b k2 := c4.kept (e3 _ (by omega))
  have rd : am_to cd_t cs (d - 1) 88 0 (am_ent 2 [.ref (b + 10)]) [] σ top sl (.inl (some (.int (oi ((pChk dec pl vs txt).map (fun R => R.1))))), s2, top, sl) := by
    have go : ∀ z w : Int32, am_to cd_t cs (d - 2) 89 0 (am_ent 4 [.ref (b + 10), .int (ii 0)]) [] s1 top sl (.inl (some (.int z)), s2, top, sl) → am_to cd_t cs (d - 2) 59 0 (am_ent 1 [.ref (b + 1)]) [] s2 top sl (.inl (some (.int w)), s2, top, sl) → ∀ res, am_to cd_t cs (d - 1) 88 18 [some (.ref (b + 10)), some (.int z)] [.int w] s2 top sl res → am_to cd_t cs (d - 1) 88 0 (am_ent 2 [.ref (b + 10)]) [] σ top sl res := by
      intro z w hz hw res hh
      refine x_n cd_i88_0 rfl rfl ?_
      refine x_ic cd_i88_1 (z := ii 0) rfl ?_
      show am_to cd_t _ _ 88 2 _ _ _ _ _ _
      refine x_putf cd_i88_2 (fs' := [.ref (b + 1), .ref (b + 3), .ref (b + 6), .int (ii 0)]) hK rfl rfl rfl ?_
      refine hs1 ▸ ?_
      refine x_n cd_i88_5 rfl rfl ?_
      refine x_ic cd_i88_6 (z := ii 0) rfl ?_
      show am_to cd_t _ _ 88 7 _ _ _ _ _ _
      refine x_callv (as' := [.int (ii 0)]) cd_i88_7 K1 (by omega) rfl rfl rfl rfl rfl rfl hz ?_
      refine x_n cd_i88_10 rfl rfl ?_
      try dsimp only [List.set]
      refine x_n cd_i88_11 rfl rfl ?_
      show am_to cd_t _ _ 88 12 _ _ _ _ _ _
      refine x_getf cd_i88_12 c4 rfl rfl ?_
      refine x_callv (as' := []) cd_i88_15 c2.1 (by omega) rfl rfl rfl rfl rfl rfl hw ?_
      exact hh
    unfold pChk
    cases hR : exprP dec pl vs txt 7 0 with
    | none =>
      rw [hR] at c1
      refine go _ _ c1 hend _ ?_
      by_cases hq : p2 = txt.length
      · rw [if_pos hq]
        refine x_if_f cd_i88_18 (fun z => absurd (show (1 : Int32) = 0 from z) (by decide)) ?_
        refine x_n cd_i88_21 rfl rfl ?_
        refine x_n cd_i88_22 rfl rfl ?_
        show am_to cd_t _ _ 88 26 _ _ _ _ _ _
        exact x_end cd_i88_26 rfl rfl rfl
      · rw [if_neg hq]
        refine x_if_t cd_i88_18 rfl ?_
        refine x_ic cd_i88_25 (z := (-1)) rfl ?_
        show am_to cd_t _ _ 88 26 _ _ _ _ _ _
        exact x_end cd_i88_26 rfl rfl rfl
    | some R =>
      obtain ⟨y1, y2, y3⟩ := c5 R hR
      rw [hR] at c1
      dsimp only
      refine go _ _ c1 hend _ ?_
      rw [y1]
      by_cases hq : R.2.1 = txt.length
      · rw [if_pos hq, if_pos hq]
        refine x_if_f cd_i88_18 (fun z => absurd (show (1 : Int32) = 0 from z) (by decide)) ?_
        refine x_n cd_i88_21 rfl rfl ?_
        refine x_n cd_i88_22 rfl rfl ?_
        show am_to cd_t _ _ 88 26 _ _ _ _ _ _
        exact x_end cd_i88_26 rfl rfl rfl
      · rw [if_neg hq, if_neg hq]
        refine x_if_t cd_i88_18 rfl ?_
        refine x_ic cd_i88_25 (z := (-1)) rfl ?_
        show am_to cd_t _ _ 88 26 _ _ _ _ _ _
        exact x_end cd_i88_26 rfl rfl rfl
  have go1 : ∀ z : Int32, am_to cd_t cs (d - 1) 88 0 (am_ent 2 [.ref (b + 10)]) [] σ top sl (.inl (some (.int z)), s2, top, sl) → ∀ res, am_to cd_t cs d 87 17 [some (.ref b), some (.int z)] [.int (-1), .int z] s3 top sl res → am_to cd_t cs d 87 0 (am_ent 2 [.ref b]) [] σ top sl res := by
    intro z hz res hh
    refine x_n cd_i87_0 rfl rfl ?_
    refine x_getf cd_i87_1 (by assumption) rfl rfl ?_
    show am_to cd_t _ _ 87 4 _ _ _ _ _ _
    refine x_callv (as' := []) cd_i87_4 hK (by omega) rfl rfl rfl rfl rfl rfl hz ?_
    refine x_n cd_i87_7 rfl rfl ?_
    try dsimp only [List.set]
    refine x_n cd_i87_8 rfl rfl ?_
    refine x_getf cd_i87_9 (by assumption) rfl rfl ?_
    show am_to cd_t _ _ 87 12 _ _ _ _ _ _
    refine x_callv (as' := []) (r := none) cd_i87_12 c2.1 (by omega) rfl rfl rfl rfl rfl rfl e1 ?_
    refine x_n cd_i87_15 rfl rfl ?_
    refine x_ic cd_i87_16 (z := (-1)) rfl ?_
    show am_to cd_t _ _ 87 17 _ _ _ _ _ _
    exact hh
  cases hP : pChk dec pl vs txt with
  | none =>
    rw [hP] at rd
    refine ⟨s3, k2, e2, K3, fun x _ h1 h2 => f3 x h1 h2, Or.inl ⟨rfl, x3, go1 _ rd _ (x_icmp_f cd_i87_17 (fun z => z rfl) ?_)⟩⟩
    exact am_to_throw (t := cd_t) cd_i87_20 rfl (by omega) (by decide)
  | some R =>
    rw [hP] at rd
    have hk : R.1 < 13 ∧ k2 = R.2 := by
      unfold pChk at hP
      cases hR : exprP dec pl vs txt 7 0 with
      | none =>
        rw [hR] at hP
        cases hP
      | some S =>
        obtain ⟨y1, y2, y3⟩ := c5 S hR
        rw [hR] at hP
        dsimp only at hP
        split at hP
        · rw [← Option.some.inj hP]
          exact ⟨y3, by show k2 = S.2.2; omega⟩
        · cases hP
    refine ⟨am_up s3 b (.inr (.inl (0, [.ref (b + 1), .ref (b + 3), .ref (b + 6), .ref (b + 9), .ref (b + 10), .ref (b + 11), .int (ii k2)]))), k2, e2.kept (am_up_ne _ _ (by omega)) (am_up_ne _ _ (by omega)), K3.kept (am_up_ne _ _ (by omega)), fun x h0 h1 h2 => (am_up_ne _ _ h0).trans (f3 x h1 h2), Or.inr ⟨R, rfl, hk.1, by rw [← hk.2]; exact am_up_self _ _ _, go1 _ rd _ (x_icmp_t cd_i87_17 (ii_ne1 (show R.1 < 2147483648 by omega)) ?_)⟩⟩
    refine x_n cd_i87_28 rfl rfl ?_
    refine x_n cd_i87_29 rfl rfl ?_
    show am_to cd_t _ _ 87 30 _ _ _ _ _ _
    refine x_getf cd_i87_30 x3 rfl rfl ?_
    refine x_getf cd_i87_33 K3 rfl rfl ?_
    refine x_putf cd_i87_36 (fs' := [.ref (b + 1), .ref (b + 3), .ref (b + 6), .ref (b + 9), .ref (b + 10), .ref (b + 11), .int (ii k2)]) x3 rfl rfl rfl ?_
    refine x_n cd_i87_39 rfl rfl ?_
    show am_to cd_t _ _ 87 40 _ _ _ _ _ _
    exact x_end cd_i87_40 rfl rfl rfl
/-- the law's call of check -/
theorem l_check {d top sl k0 o : Nat} {σ : am_H} {v : Value} {f : Nat → Int64} (hd : 41 < d) (hbo : b + 88 ≤ o) (hot : o < top) (hcs : csOk cs ad) (hT : ∀ c ∈ txt, cok c) (hO : catOk dec) (hr : ranked dec rk) (hx : X_o σ b v) (hV : envX cs ad b hi dec pl da ea vs σ) (hK : X_er σ b k0) (hB : X_buf σ b txt 0) (hOo : σ o = some (.inl (.long, 1, .inr (.inl f)))) :
    ∃ (σ' : am_H) (k : Int32) (g : Nat → Int64) (k1 : Nat) (v' : Value) (top' sl' : Nat), am_to cd_t cs d 161 0 (am_ent 3 [.ref b, .ref o]) [] σ top sl (.inl (some (.int k)), σ', top', sl') ∧ top ≤ top' ∧ top' ≤ top + 1 ∧ sl' ≤ sl + 6 ∧ X_buf σ' b [] 0 ∧ X_er σ' b k1 ∧ X_o σ' b v' ∧ σ' o = some (.inl (.long, 1, .inr (.inl g))) ∧ (∀ x, x < top → x ≠ b → x ≠ b + 1 → x ≠ b + 10 → x ≠ o → σ' x = σ x) ∧
      ((pChk dec pl vs txt = none ∧ k = 1 ∧ v' = v) ∨ (∃ R, pChk dec pl vs txt = some R ∧ R.1 < 13 ∧ k = 0 ∧ v' = .int (ii R.2) ∧ g 0 = (ii R.1).toInt64)) := by
  obtain ⟨s1, k1, a1, a2, a3, a4⟩ := x_check (cs := cs) (d := d - 1) (top := top) (sl := sl) (by omega) hcs hT hO hr hx hV hK hB
  have o1 : s1 o = some (.inl (.long, 1, .inr (.inl f))) := (a3 o (by omega) (by omega) (by omega)).trans hOo
  rcases a4 with ⟨h1, h2, h3⟩ | ⟨R, h1, h2, h3, h4⟩
  · refine ⟨am_up s1 top (.inr (.inl (12, []))), 1, f, k1, v, top + 1, sl + 6, ?_, by omega, by omega, by omega, a1.kept (am_up_ne _ _ (by omega)) (am_up_ne _ _ (by omega)), a2.kept (am_up_ne _ _ (by omega)), (am_up_ne _ _ (by omega)).trans h2, (am_up_ne _ _ (by omega)).trans o1, fun x g0 g1 g2 g3 g4 => (am_up_ne _ _ (by omega)).trans (a3 x g1 g2 g3), Or.inl ⟨h1, rfl, rfl⟩⟩
    refine x_n cd_i161_0 rfl rfl ?_
    refine x_ic cd_i161_1 (z := ii 0) rfl ?_
    refine x_n cd_i161_2 rfl rfl ?_
    show am_to cd_t _ _ 161 3 _ _ _ _ _ _
    refine x_catch (as' := []) (h := 11) cd_i161_3 hx (by omega) rfl rfl rfl rfl rfl rfl h3 (by unfold am_hd; rw [am_up_self]; rfl) ?_
    refine x_n cd_i161_11 rfl rfl ?_
    try dsimp only [List.set]
    refine x_ic cd_i161_12 (z := ii 1) rfl ?_
    show am_to cd_t _ _ 161 13 _ _ _ _ _ _
    exact x_end cd_i161_13 rfl rfl rfl
  · refine ⟨am_up s1 o (.inl (.long, 1, .inr (.inl (vp_updL f 0 (ii R.1).toInt64)))), 0, _, k1, .int (ii R.2), top, sl, ?_, by omega, by omega, by omega, a1.kept (am_up_ne _ _ (by omega)) (am_up_ne _ _ (by omega)), a2.kept (am_up_ne _ _ (by omega)), (am_up_ne _ _ (by omega)).trans h3, am_up_self _ _ _, fun x g0 g1 g2 g3 g4 => (am_up_ne _ _ g4).trans (a3 x g1 g2 g3), Or.inr ⟨R, h1, h2, rfl, rfl, rfl⟩⟩
    refine x_n cd_i161_0 rfl rfl ?_
    refine x_ic cd_i161_1 (z := ii 0) rfl ?_
    refine x_n cd_i161_2 rfl rfl ?_
    show am_to cd_t _ _ 161 3 _ _ _ _ _ _
    refine x_callv (as' := []) cd_i161_3 hx (by omega) rfl rfl rfl rfl rfl rfl h4 ?_
    refine x_n cd_i161_6 rfl rfl ?_
    show am_to cd_t _ _ 161 7 _ _ _ _ _ _
    refine x_lastore cd_i161_7 (i := 0) o1 (by decide) (by decide) ?_
    refine x_n cd_i161_8 rfl rfl ?_
    refine x_ic cd_i161_14 (z := ii 0) rfl ?_
    show am_to cd_t _ _ 161 15 _ _ _ _ _ _
    exact x_end cd_i161_15 rfl rfl rfl
end EW
