section EY
variable {cs : Nat → Value} {b : Nat} {ad : Nat → Nat} {hi : Nat} {dec : Nat → Option Dec} {pl : Int32} {da : Nat → Nat} {ea : Nat → Nat → Nat} {rk : Nat → Nat} {vs : List (List Nat × Nat)} {txt : List Nat}
/-- a reader of expressions at a depth -/
def XExp (cs : Nat → Value) (ad : Nat → Nat) (b hi : Nat) (dec : Nat → Option Dec) (pl : Int32) (da : Nat → Nat) (ea : Nat → Nat → Nat) (vs : List (List Nat × Nat)) (txt : List Nat) (dep : Nat) (E : Nat → ERes) (dm : Nat) : Prop := ∀ (d top sl : Nat) (σ : am_H) (p k : Nat), dm < d → envX cs ad b hi dec pl da ea vs σ → X_er σ b k → X_buf σ b txt p → p ≤ txt.length →
  ∃ (σ' : am_H) (p' k' : Nat), am_to cd_t cs d 89 0 (am_ent 4 [.ref (b + 10), .int (ii dep)]) [] σ top sl (.inl (some (.int (oi ((E p).map (fun R => R.1))))), σ', top, sl) ∧ X_buf σ' b txt p' ∧ p' ≤ txt.length ∧ X_er σ' b k' ∧ (∀ R, E p = some R → p' = R.2.1 ∧ k' = k + R.2.2 ∧ R.1 < 13) ∧ ∀ x, x ≠ b + 1 → x ≠ b + 10 → σ' x = σ x
theorem X_er.kept {σ σ' : am_H} {k : Nat} (h : X_er σ b k) (hq : σ' (b + 10) = σ (b + 10)) : X_er σ' b k := hq.trans h
theorem env_mem {σ : am_H} {x j : Nat} {D : Dec} (h : envX cs ad b hi dec pl da ea vs σ) (hr : ranked dec rk) (hD : dec x = some D) (hj : j < D.2.length) : memAt ad σ (b + 114) hi (ea x j) (D.2.getD j default) := by
  obtain ⟨q1, q2, qr, qg, q3, q4, q5, q6, q7, q8⟩ := h.2.1.2.2.1 x D (hr x D hD).1 hD
  exact (q8 j hj).2
theorem x_args_loop {E : Nat → ERes} {dep dm x j : Nat} {D : Dec} (hT : ∀ c ∈ txt, cok c) (hO : catOk dec) (hr : ranked dec rk) (hE : XExp cs ad b hi dec pl da ea vs txt (dep + 1) E dm) (hD : dec x = some D) (hj : j < D.2.length) :
    ∀ (ts : List Nat) (i : Nat) (d top sl : Nat) (σ : am_H) (p k : Nat) (v4 : Option Value), dm + 1 < d → 3 < d → (D.2.getD j default).2.2.2.2.1.drop i = ts → i + ts.length = (D.2.getD j default).2.2.2.2.1.length → envX cs ad b hi dec pl da ea vs σ → X_er σ b k → X_buf σ b txt p → p ≤ txt.length →
    ∃ (σ' : am_H) (p' k' : Nat), am_to cd_t cs d 94 16 [some (.ref (b + 10)), some (.ref (ea x j)), some (.int (ii dep)), some (.int (ii i)), v4] [] σ top sl (.inl (some (.int (b2i (argsP dec txt E ts (i == 0) p).isSome))), σ', top, sl) ∧ X_buf σ' b txt p' ∧ p' ≤ txt.length ∧ X_er σ' b k' ∧ (∀ R, argsP dec txt E ts (i == 0) p = some R → p' = R.1 ∧ k' = k + R.2) ∧ ∀ x, x ≠ b + 1 → x ≠ b + 10 → σ' x = σ x := by
  have hok := (hO x D hD).2.1 _ (getD_mem hj)
  have hl2 := hok.2.2.2.2.1
  intro ts
  induction ts with
  | nil =>
    intro i d top sl σ p k v4 hd hd3 e1 e2 hV hK hB hp
    have e2 : i = (D.2.getD j default).2.2.2.2.1.length := by simpa using e2
    obtain ⟨m1, m2, mp, mf, m3, m4, m5, m6, m7, m8⟩ := env_mem hV hr hD hj
    obtain ⟨s1, a1, a2, a3⟩ := x_take (cs := cs) (d := d - 1) (top := top) (sl := sl) (c := 41) (by omega) hB hT hp (by decide) (by decide)
    have fin : ∀ z : Int32, am_to cd_t cs (d - 1) 34 0 (am_ent 2 [.ref (b + 1), .int (ii 41)]) [] σ top sl (.inl (some (.int z)), s1, top, sl) → (z = 0 ∨ z = 1) → am_to cd_t cs d 94 16 [some (.ref (b + 10)), some (.ref (ea x j)), some (.int (ii dep)), some (.int (ii i)), v4] [] σ top sl (.inl (some (.int z)), s1, top, sl) := by
      intro z hz hz2
      refine x_n cd_i94_16 rfl rfl ?_
      refine x_n cd_i94_17 rfl rfl ?_
      refine x_getf cd_i94_18 (by assumption) rfl rfl ?_
      show am_to cd_t _ _ 94 21 _ _ _ _ _ _
      refine x_icmp_t cd_i94_21 ((ii_le (by omega) (by omega)).mpr (by omega)) ?_
      refine x_n cd_i94_83 rfl rfl ?_
      refine x_getf cd_i94_84 (by assumption) rfl rfl ?_
      refine x_bi cd_i94_87 (z := ii 41) (by decide) ?_
      show am_to cd_t _ _ 94 89 _ _ _ _ _ _
      refine x_callv (as' := [.int (ii 41)]) cd_i94_89 hB.1 (by omega) rfl rfl rfl rfl rfl rfl hz ?_
      rcases hz2 with rfl | rfl <;> exact x_end cd_i94_92 rfl rfl rfl
    rw [argsP]
    by_cases hc : txt.getD p 0 = 41
    · have hlt := getD_lt hc (by decide)
      rw [if_pos hc] at a1 a2 ⊢
      exact ⟨s1, p + 1, k, fin _ a1 (Or.inr rfl), a2, by omega, hK.kept (a3 _ (by omega)), (fun R hR => by rw [← Option.some.inj hR]; exact ⟨rfl, rfl⟩), fun x h1 _ => a3 x h1⟩
    · rw [if_neg hc] at a1 a2 ⊢
      exact ⟨s1, p, k, fin _ a1 (Or.inl rfl), a2, hp, hK.kept (a3 _ (by omega)), (fun R hR => by cases hR), fun x h1 _ => a3 x h1⟩
  | cons w ts ih =>
    intro i d top sl σ p k v4 hd hd3 e1 e2 hV hK hB hp
    rw [List.length_cons] at e2
    have hi : i < (D.2.getD j default).2.2.2.2.1.length := by omega
    have hwi : (D.2.getD j default).2.2.2.2.1.getD i 0 = w := by
      have := congrArg (fun q => q.head?) e1
      rw [List.head?_drop] at this
      rw [List.getD_eq_getElem?_getD, this]
      rfl
    have hdr : (D.2.getD j default).2.2.2.2.1.drop (i + 1) = ts := by
      have := congrArg List.tail e1
      rw [List.tail_drop] at this
      exact this
    have hw13 : w < 13 := by rw [← hwi]; exact getD_lt13 hok.2.2.2.2.2.1 hi
    obtain ⟨m1, m2, mp, mf, m3, m4, m5, m6, m7, m8⟩ := env_mem hV hr hD hj
    rw [argsP]
    have mid : ∃ (s1 : am_H) (q : Nat) (g : Bool), X_buf s1 b txt q ∧ q ≤ txt.length ∧ (∀ y, y ≠ b + 1 → s1 y = σ y) ∧ (g = true ↔ ((i == 0) = true ∨ txt.getD p 0 = 44)) ∧ (g = true → q = if (i == 0) = true then p else p + 1) ∧ (g = true → ∀ res, am_to cd_t cs d 94 42 [some (.ref (b + 10)), some (.ref (ea x j)), some (.int (ii dep)), some (.int (ii i)), v4] [] s1 top sl res → am_to cd_t cs d 94 16 [some (.ref (b + 10)), some (.ref (ea x j)), some (.int (ii dep)), some (.int (ii i)), v4] [] σ top sl res) ∧ (g = false → am_to cd_t cs d 94 16 [some (.ref (b + 10)), some (.ref (ea x j)), some (.int (ii dep)), some (.int (ii i)), v4] [] σ top sl (.inl (some (.int (b2i false))), s1, top, sl)) := by
      by_cases h0 : i = 0
      · have hb0 : (i == 0) = true := beq_iff_eq.mpr h0
        refine ⟨σ, p, true, hB, hp, fun _ _ => rfl, ⟨fun _ => Or.inl hb0, fun _ => rfl⟩, fun _ => by rw [if_pos hb0], fun _ res hh => ?_, (fun h => by cases h)⟩
        refine x_n cd_i94_16 rfl rfl ?_
        refine x_n cd_i94_17 rfl rfl ?_
        refine x_getf cd_i94_18 (by assumption) rfl rfl ?_
        show am_to cd_t _ _ 94 21 _ _ _ _ _ _
        refine x_icmp_f cd_i94_21 (fun z => by have := (ii_le (by omega) (by omega)).mp (show ii (D.2.getD j default).2.2.2.2.1.length ≤ ii i from z); omega) ?_
        refine x_n cd_i94_24 rfl rfl ?_
        show am_to cd_t _ _ 94 25 _ _ _ _ _ _
        exact x_if_t cd_i94_25 ((ii_le (b := 0) (by omega) (by decide)).mpr (by omega)) hh
      · have hb0 : ¬ (i == 0) = true := fun z => h0 (beq_iff_eq.mp z)
        obtain ⟨s1, a1, a2, a3⟩ := x_take (cs := cs) (d := d - 1) (top := top) (sl := sl) (c := 44) (by omega) hB hT hp (by decide) (by decide)
        have go : ∀ z : Int32, am_to cd_t cs (d - 1) 34 0 (am_ent 2 [.ref (b + 1), .int (ii 44)]) [] σ top sl (.inl (some (.int z)), s1, top, sl) → ∀ res, am_to cd_t cs d 94 37 [some (.ref (b + 10)), some (.ref (ea x j)), some (.int (ii dep)), some (.int (ii i)), v4] [.int z] s1 top sl res → am_to cd_t cs d 94 16 [some (.ref (b + 10)), some (.ref (ea x j)), some (.int (ii dep)), some (.int (ii i)), v4] [] σ top sl res := by
          intro z hz res hh
          refine x_n cd_i94_16 rfl rfl ?_
          refine x_n cd_i94_17 rfl rfl ?_
          refine x_getf cd_i94_18 (by assumption) rfl rfl ?_
          show am_to cd_t _ _ 94 21 _ _ _ _ _ _
          refine x_icmp_f cd_i94_21 (fun z => by have := (ii_le (by omega) (by omega)).mp (show ii (D.2.getD j default).2.2.2.2.1.length ≤ ii i from z); omega) ?_
          refine x_n cd_i94_24 rfl rfl ?_
          show am_to cd_t _ _ 94 25 _ _ _ _ _ _
          refine x_if_f cd_i94_25 (fun z => by have := (ii_le (b := 0) (by omega) (by decide)).mp (show ii i ≤ ii 0 from z); omega) ?_
          refine x_n cd_i94_28 rfl rfl ?_
          refine x_getf cd_i94_29 (by assumption) rfl rfl ?_
          refine x_bi cd_i94_32 (z := ii 44) (by decide) ?_
          show am_to cd_t _ _ 94 34 _ _ _ _ _ _
          refine x_callv (as' := [.int (ii 44)]) cd_i94_34 hB.1 (by omega) rfl rfl rfl rfl rfl rfl hz ?_
          exact hh
        by_cases h44 : txt.getD p 0 = 44
        · have hlt := getD_lt h44 (by decide)
          rw [if_pos h44] at a1 a2
          exact ⟨s1, p + 1, true, a2, by omega, a3, ⟨fun _ => Or.inr h44, fun _ => rfl⟩, fun _ => by rw [if_neg hb0], fun _ res hh => go _ a1 res (x_if_t cd_i94_37 (fun z => absurd (show (1 : Int32) = 0 from z) (by decide)) hh), (fun h => by cases h)⟩
        · rw [if_neg h44] at a1 a2
          refine ⟨s1, p, false, a2, hp, a3, ⟨(fun h => by cases h), (fun h => by rcases h with h | h; exact absurd h hb0; exact absurd h h44)⟩, (fun h => by cases h), (fun h => by cases h), fun _ => go _ a1 _ (x_if_f cd_i94_37 (fun z => z rfl) ?_)⟩
          refine x_ic cd_i94_40 (z := ii 0) rfl ?_
          show am_to cd_t _ _ 94 41 _ _ _ _ _ _
          exact x_end cd_i94_41 rfl rfl rfl
    obtain ⟨s1, q, g, b1, b2, b3, b4, b5, b6, b7⟩ := mid
    have K1 : X_er s1 b k := hK.kept (b3 _ (by omega))
    have V1 := hV.kept (fun x h1 _ => b3 x h1)
    cases g with
    | false =>
      rw [if_neg (fun h => by have := b4.mpr h; cases this)]
      exact ⟨s1, q, k, b7 rfl, b1, b2, K1, (fun R hR => by cases hR), fun x h1 _ => b3 x h1⟩
    | true =>
      rw [if_pos (b4.mp rfl), ← b5 rfl]
      obtain ⟨s2, p2, k2, c1, c2, c3, c4, c5, c6⟩ := hE (d - 1) top sl s1 q k (by omega) V1 K1 b1 b2
      have f2 : ∀ y, y ≠ b + 1 → y ≠ b + 10 → s2 y = σ y := fun y h1 h2 => (c6 y h1 h2).trans (b3 y h1)
      have V2 := hV.kept f2
      obtain ⟨n1, n2, np, nf, n3, n4, n5, n6, n7, n8⟩ := env_mem V2 hr hD hj
      have go2 : ∀ z : Int32, am_to cd_t cs (d - 1) 89 0 (am_ent 4 [.ref (b + 10), .int (ii (dep + 1))]) [] s1 top sl (.inl (some (.int z)), s2, top, sl) → ∀ res, am_to cd_t cs d 94 54 [some (.ref (b + 10)), some (.ref (ea x j)), some (.int (ii dep)), some (.int (ii i)), some (.int z)] [.int (-1), .int z] s2 top sl res → am_to cd_t cs d 94 16 [some (.ref (b + 10)), some (.ref (ea x j)), some (.int (ii dep)), some (.int (ii i)), v4] [] σ top sl res := by
        intro z hz res hh
        refine b6 rfl res ?_
        refine x_n cd_i94_42 rfl rfl ?_
        refine x_n cd_i94_43 rfl rfl ?_
        refine x_ic cd_i94_44 (z := ii 1) rfl ?_
        show am_to cd_t _ _ 94 45 _ _ _ _ _ _
        refine x_iadd cd_i94_45 (ii_add _ _) ?_
        refine x_callv (as' := [.int (ii (dep + 1))]) cd_i94_46 K1 (by omega) rfl rfl rfl rfl rfl rfl hz ?_
        refine x_n cd_i94_49 rfl rfl ?_
        try dsimp only [List.set]
        refine x_n cd_i94_51 rfl rfl ?_
        refine x_ic cd_i94_53 (z := (-1)) rfl ?_
        show am_to cd_t _ _ 94 54 _ _ _ _ _ _
        exact hh
      cases hR : E q with
      | none =>
        rw [hR] at c1
        refine ⟨s2, p2, k2, go2 _ c1 _ (x_icmp_t cd_i94_54 rfl ?_), c2, c3, c4, (fun R hR => by cases hR), f2⟩
        refine x_ic cd_i94_75 (z := ii 0) rfl ?_
        show am_to cd_t _ _ 94 76 _ _ _ _ _ _
        exact x_end cd_i94_76 rfl rfl rfl
      | some R =>
        obtain ⟨y1, y2, y3⟩ := c5 R hR
        rw [hR] at c1
        dsimp only
        have hfit := x_isFitting (cs := cs) (d := d - 1) (top := top) (sl := sl) (t := R.1) (w := w) V2.2.1.1 V2.2.1.2.2.2.1 y3 hw13
        have go3 : ∀ res, am_to cd_t cs d 94 72 [some (.ref (b + 10)), some (.ref (ea x j)), some (.int (ii dep)), some (.int (ii i)), some (.int (ii R.1))] [.int (b2i (fitB dec R.1 w))] s2 top sl res → am_to cd_t cs d 94 16 [some (.ref (b + 10)), some (.ref (ea x j)), some (.int (ii dep)), some (.int (ii i)), v4] [] σ top sl res := by
          intro res hh
          refine go2 _ c1 res (x_icmp_f cd_i94_54 (ii_ne1 (show R.1 < 2147483648 by omega)) ?_)
          refine x_n cd_i94_57 rfl rfl ?_
          refine x_getf cd_i94_58 (by assumption) rfl rfl ?_
          refine x_n cd_i94_61 rfl rfl ?_
          refine x_n cd_i94_63 rfl rfl ?_
          refine x_getf cd_i94_64 (by assumption) rfl rfl ?_
          refine x_n cd_i94_67 rfl rfl ?_
          show am_to cd_t _ _ 94 68 _ _ _ _ _ _
          refine x_iald cd_i94_68 n6 (show i < 2 by omega) (by decide) ((n8 i hi).trans (congrArg ii hwi)) ?_
          refine x_callv (as' := [.int (ii R.1), .int (ii w)]) cd_i94_69 V2.2.1.1 (by omega) rfl rfl rfl rfl rfl rfl hfit ?_
          exact hh
        cases hf : fitB dec R.1 w with
        | false =>
          rw [hf] at go3
          rw [if_neg (by decide)]
          refine ⟨s2, p2, k2, go3 _ (x_if_f cd_i94_72 (fun z => z rfl) ?_), c2, c3, c4, (fun R hR => by cases hR), f2⟩
          refine x_ic cd_i94_75 (z := ii 0) rfl ?_
          show am_to cd_t _ _ 94 76 _ _ _ _ _ _
          exact x_end cd_i94_76 rfl rfl rfl
        | true =>
          rw [hf] at go3
          rw [if_pos rfl]
          obtain ⟨s3, p3, k3, t1, t2, t3, t4, t5, t6⟩ := ih (i + 1) d top sl s2 p2 k2 (some (.int (ii R.1))) hd hd3 hdr (by omega) V2 c4 c2 c3
          have e0 : (i + 1 == 0) = false := beq_eq_false_iff_ne.mpr (by omega)
          rw [e0, y1] at t1 t5
          refine ⟨s3, p3, k3, go3 _ (x_if_t cd_i94_72 (fun z => absurd (show (1 : Int32) = 0 from z) (by decide)) ?_), t2, t3, t4, fun S hS => ?_, fun y h1 h2 => (t6 y h1 h2).trans (f2 y h1 h2)⟩
          · rw [Option.isSome_map]
            refine x_iinc cd_i94_77 rfl (ii_add _ 1) rfl ?_
            refine x_n cd_i94_80 rfl rfl ?_
            show am_to cd_t _ _ 94 16 _ _ _ _ _ _
            exact t1
          · obtain ⟨S', hS', e⟩ := Option.map_eq_some_iff.mp hS
            obtain ⟨z1, z2⟩ := t5 S' hS'
            rw [← e]
            refine ⟨z1, ?_⟩
            show k3 = k + (R.2.2 + S'.2)
            omega
/-- a member that is used -/
theorem x_use {E : Nat → ERes} {dep dm d top sl : Nat} {σ : am_H} {p k : Nat} {o : Option (Nat × Nat)} (hd : dm + 2 < d) (hd3 : 4 < d) (hcs : csOk cs ad) (hT : ∀ c ∈ txt, cok c) (hO : catOk dec) (hr : ranked dec rk) (hE : XExp cs ad b hi dec pl da ea vs txt (dep + 1) E dm) (ho : ∀ q, o = some q → ∃ D, dec q.1 = some D ∧ q.2 < D.2.length) (hV : envX cs ad b hi dec pl da ea vs σ) (hK : X_er σ b k) (hB : X_buf σ b txt p) (hp : p ≤ txt.length) :
    ∃ (σ' : am_H) (p' k' : Nat), am_to cd_t cs d 93 0 (am_ent 3 [.ref (b + 10), va_rf (o.map fun q => ea q.1 q.2), .int (ii dep)]) [] σ top sl (.inl (some (.int (oi ((useP dec txt E o p).map (fun R => R.1))))), σ', top, sl) ∧ X_buf σ' b txt p' ∧ p' ≤ txt.length ∧ X_er σ' b k' ∧ (∀ R, useP dec txt E o p = some R → p' = R.2.1 ∧ k' = k + R.2.2 ∧ R.1 < 13) ∧ ∀ x, x ≠ b + 1 → x ≠ b + 10 → σ' x = σ x := by
  cases o with
  | none =>
    refine ⟨σ, p, k, ?_, hB, hp, hK, (fun R hR => by cases hR), fun _ _ _ => rfl⟩
    refine x_n cd_i93_0 rfl rfl ?_
    show am_to cd_t _ _ 93 1 _ _ _ _ _ _
    refine x_nn_f cd_i93_1 ?_
    refine x_ic cd_i93_4 (z := (-1)) rfl ?_
    show am_to cd_t _ _ 93 5 _ _ _ _ _ _
    exact x_end cd_i93_5 rfl rfl rfl
  | some q =>
    obtain ⟨x, j⟩ := q
    obtain ⟨D, hD, hj⟩ := ho _ rfl
    have hD : dec x = some D := hD
    have hj : j < D.2.length := hj
    have em : memQ dec (x, j) = D.2.getD j default := by unfold memQ memsOf; rw [hD]
    have hok := (hO x D hD).2.1 _ (getD_mem hj)
    obtain ⟨s1, hs1⟩ : ∃ z, z = am_up σ (b + 10) (.inr (.inl (6, [.ref (b + 1), .ref (b + 3), .ref (b + 6), .int (ii (k + 1))]))) := ⟨_, rfl⟩
    have K1 : X_er s1 b (k + 1) := by rw [hs1]; exact am_up_self _ _ _
    have f1 : ∀ y, y ≠ b + 10 → s1 y = σ y := fun y h => by rw [hs1, am_up_ne _ _ h]
    have V1 := hV.kept (σ' := s1) (fun y _ h => f1 y h)
    have B1 : X_buf s1 b txt p := hB.kept (f1 _ (by omega)) (f1 _ (by omega))
    have mem1 := env_mem V1 hr hD hj
    obtain ⟨m1, m2, mp, mf, m3, m4, m5, m6, m7, m8⟩ := id mem1
    have go1 : ∀ res, am_to cd_t cs d 93 23 [some (.ref (b + 10)), some (.ref (ea x j)), some (.int (ii dep))] [.ref (ad 0), .ref (ad (D.2.getD j default).1)] s1 top sl res → am_to cd_t cs d 93 0 (am_ent 3 [.ref (b + 10), .ref (ea x j), .int (ii dep)]) [] σ top sl res := by
      intro res hh
      refine x_n cd_i93_0 rfl rfl ?_
      show am_to cd_t _ _ 93 1 _ _ _ _ _ _
      refine x_nn_t cd_i93_1 ?_
      refine x_n cd_i93_6 rfl rfl ?_
      refine x_n cd_i93_7 rfl rfl ?_
      show am_to cd_t _ _ 93 8 _ _ _ _ _ _
      refine x_getf cd_i93_8 hK rfl rfl ?_
      refine x_ic cd_i93_11 (z := ii 1) rfl ?_
      show am_to cd_t _ _ 93 12 _ _ _ _ _ _
      refine x_iadd cd_i93_12 (ii_add _ _) ?_
      refine x_putf cd_i93_13 (fs' := [.ref (b + 1), .ref (b + 3), .ref (b + 6), .int (ii (k + 1))]) hK rfl rfl rfl ?_
      refine hs1 ▸ ?_
      refine x_n cd_i93_16 rfl rfl ?_
      show am_to cd_t _ _ 93 17 _ _ _ _ _ _
      refine x_getf cd_i93_17 m5 rfl rfl ?_
      refine x_n cd_i93_20 rfl rfl ?_
      rw [hcs.1]
      exact hh
    have typ : ∀ s2, memAt ad s2 (b + 114) hi (ea x j) (D.2.getD j default) → am_to cd_t cs d 93 37 [some (.ref (b + 10)), some (.ref (ea x j)), some (.int (ii dep))] [] s2 top sl (.inl (some (.int (ii (D.2.getD j default).2.2.2.2.2))), s2, top, sl) := by
      intro s2 ⟨n1, n2, np, nf, n3, n4, n5, n6, n7, n8⟩
      refine x_n cd_i93_37 rfl rfl ?_
      show am_to cd_t _ _ 93 38 _ _ _ _ _ _
      refine x_getf cd_i93_38 n5 rfl rfl ?_
      exact x_end cd_i93_41 rfl rfl rfl
    unfold useP
    dsimp only
    rw [em]
    by_cases h0 : (D.2.getD j default).1 = 0
    · rw [if_pos h0]
      refine ⟨s1, p, k + 1, go1 _ ?_, B1, hp, K1, (fun R hR => by rw [← Option.some.inj hR]; exact ⟨rfl, rfl, hok.2.2.2.2.2.2.1⟩), fun y _ h => f1 y h⟩
      rw [h0]
      exact x_aceq cd_i93_23 (fun _ => typ s1 mem1) (fun z => absurd rfl z)
    · rw [if_neg h0]
      obtain ⟨s2, a1, a2, a3⟩ := x_take (cs := cs) (d := d - 2) (top := top) (sl := sl) (c := 40) (by omega) B1 hT hp (by decide) (by decide)
      have go2 : ∀ (s3 : am_H) (z : Int32), am_to cd_t cs (d - 1) 94 0 (am_ent 5 [.ref (b + 10), .ref (ea x j), .int (ii dep)]) [] s1 top sl (.inl (some (.int z)), s3, top, sl) → ∀ res, am_to cd_t cs d 93 32 [some (.ref (b + 10)), some (.ref (ea x j)), some (.int (ii dep))] [.int z] s3 top sl res → am_to cd_t cs d 93 0 (am_ent 3 [.ref (b + 10), .ref (ea x j), .int (ii dep)]) [] σ top sl res := by
        intro s3 z hz res hh
        refine go1 res (x_aceq cd_i93_23 (fun y => absurd (hcs.2.2.2.2.2 _ _ hok.1 (by decide) y) h0) (fun _ => ?_))
        refine x_n cd_i93_26 rfl rfl ?_
        refine x_n cd_i93_27 rfl rfl ?_
        refine x_n cd_i93_28 rfl rfl ?_
        show am_to cd_t _ _ 93 29 _ _ _ _ _ _
        refine x_callv (as' := [.ref (ea x j), .int (ii dep)]) cd_i93_29 K1 (by omega) rfl rfl rfl rfl rfl rfl hz ?_
        exact hh
      have K2 : X_er s2 b (k + 1) := K1.kept (a3 _ (by omega))
      have f2 : ∀ y, y ≠ b + 1 → y ≠ b + 10 → s2 y = σ y := fun y h1 h2 => (a3 y h1).trans (f1 y h2)
      have goA : ∀ z : Int32, am_to cd_t cs (d - 2) 34 0 (am_ent 2 [.ref (b + 1), .int (ii 40)]) [] s1 top sl (.inl (some (.int z)), s2, top, sl) → ∀ res, am_to cd_t cs (d - 1) 94 9 [some (.ref (b + 10)), some (.ref (ea x j)), some (.int (ii dep)), none, none] [.int z] s2 top sl res → am_to cd_t cs (d - 1) 94 0 (am_ent 5 [.ref (b + 10), .ref (ea x j), .int (ii dep)]) [] s1 top sl res := by
        intro z hz res hh
        refine x_n cd_i94_0 rfl rfl ?_
        refine x_getf cd_i94_1 (by assumption) rfl rfl ?_
        refine x_bi cd_i94_4 (z := ii 40) (by decide) ?_
        show am_to cd_t _ _ 94 6 _ _ _ _ _ _
        refine x_callv (as' := [.int (ii 40)]) cd_i94_6 B1.1 (by omega) rfl rfl rfl rfl rfl rfl hz ?_
        exact hh
      by_cases hc : txt.getD p 0 = 40
      · have hlt := getD_lt hc (by decide)
        rw [if_pos hc] at a1 a2 ⊢
        obtain ⟨s3, p3, k3, t1, t2, t3, t4, t5, t6⟩ := x_args_loop (cs := cs) hT hO hr hE hD hj (D.2.getD j default).2.2.2.2.1 0 (d - 1) top sl s2 (p + 1) (k + 1) none (by omega) (by omega) rfl (Nat.zero_add _) (hV.kept f2) K2 a2 (by omega)
        have e0 : ((0 : Nat) == 0) = true := rfl
        rw [e0] at t1 t5
        have f3 : ∀ y, y ≠ b + 1 → y ≠ b + 10 → s3 y = σ y := fun y h1 h2 => (t6 y h1 h2).trans (f2 y h1 h2)
        have call : am_to cd_t cs (d - 1) 94 0 (am_ent 5 [.ref (b + 10), .ref (ea x j), .int (ii dep)]) [] s1 top sl (.inl (some (.int (b2i (argsP dec txt E (D.2.getD j default).2.2.2.2.1 true (p + 1)).isSome))), s3, top, sl) := by
          refine goA _ a1 _ (x_if_t cd_i94_9 (fun z => absurd (show (1 : Int32) = 0 from z) (by decide)) ?_)
          refine x_ic cd_i94_14 (z := ii 0) rfl ?_
          refine x_n cd_i94_15 rfl rfl ?_
          try dsimp only [List.set]
          show am_to cd_t _ _ 94 16 _ _ _ _ _ _
          exact t1
        cases hA : argsP dec txt E (D.2.getD j default).2.2.2.2.1 true (p + 1) with
        | none =>
          rw [hA] at call
          refine ⟨s3, p3, k3, go2 s3 _ call _ (x_if_f cd_i93_32 (fun z => z rfl) ?_), t2, t3, t4, (fun R hR => by cases hR), f3⟩
          refine x_ic cd_i93_35 (z := (-1)) rfl ?_
          show am_to cd_t _ _ 93 36 _ _ _ _ _ _
          exact x_end cd_i93_36 rfl rfl rfl
        | some S =>
          rw [hA] at call
          obtain ⟨z1, z2⟩ := t5 S hA
          refine ⟨s3, p3, k3, go2 s3 _ call _ (x_if_t cd_i93_32 (fun z => absurd (show (1 : Int32) = 0 from z) (by decide)) ?_), t2, t3, t4, (fun R hR => ?_), f3⟩
          · exact typ s3 (env_mem (hV.kept f3) hr hD hj)
          · rw [← Option.some.inj hR]
            refine ⟨z1, ?_, hok.2.2.2.2.2.2.1⟩
            show k3 = k + (1 + S.2)
            omega
      · rw [if_neg hc] at a1 a2 ⊢
        have call : am_to cd_t cs (d - 1) 94 0 (am_ent 5 [.ref (b + 10), .ref (ea x j), .int (ii dep)]) [] s1 top sl (.inl (some (.int (b2i false))), s2, top, sl) := by
          refine goA _ a1 _ (x_if_f cd_i94_9 (fun z => z rfl) ?_)
          refine x_ic cd_i94_12 (z := ii 0) rfl ?_
          show am_to cd_t _ _ 94 13 _ _ _ _ _ _
          exact x_end cd_i94_13 rfl rfl rfl
        refine ⟨s2, p, k + 1, go2 s2 _ call _ (x_if_f cd_i93_32 (fun z => z rfl) ?_), a2, hp, K2, (fun R hR => by cases hR), f2⟩
        refine x_ic cd_i93_35 (z := (-1)) rfl ?_
        show am_to cd_t _ _ 93 36 _ _ _ _ _ _
        exact x_end cd_i93_36 rfl rfl rfl
end EY
