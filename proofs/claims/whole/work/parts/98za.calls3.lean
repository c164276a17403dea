section KCU
variable {cs : Nat → Value} {ad : Nat → Nat} {b hi : Nat} {dec : Nat → Option Dec} {pl : Int32} {da : Nat → Nat} {ea : Nat → Nat → Nat} {K : Nat → List Ent} {c : Nat} {z : Int32} {x j : Nat} {r : Option Ent} {top sl d n : Nat} {rk : Nat → Nat} {D : Dec}
theorem Pc_next {as : List Ent} {P0 : Tup → Prop} {cost : Nat} {q : Nat × Nat} (s : Tup) : Pc dec pl K c q r as P0 cost (K cost).length s ↔ Pc dec pl K c q r as P0 (cost + 1) 0 s := by
  unfold Pc
  rw [List.take_length, List.take_zero]
  constructor
  · rintro (h | ⟨h1, h2, h3, A, bs, h4, h5⟩)
    · exact Or.inl h
    · exact Or.inr ⟨h1, h2, h3, A, bs, h4, Or.inl (by omega)⟩
  · rintro (h | ⟨h1, h2, h3, A, bs, h4, h5⟩)
    · exact Or.inl h
    · refine Or.inr ⟨h1, h2, h3, A, bs, h4, ?_⟩
      rcases h5 with h | ⟨-, h⟩
      · by_cases e : cst A.1 = cost
        · have := (h1.2.2.1 A (by rw [h4]; exact List.mem_append.mpr (Or.inr List.mem_cons_self))).2
          rw [e] at this
          exact Or.inr ⟨e, this⟩
        · exact Or.inl (by omega)
      · cases h
theorem kc_outer {as : List Ent} {left : Nat} {P0 : Tup → Prop} {last : Int32} (hd : 2 < d) (hO : catOk dec) (hrk : ranked dec rk) (hK : Kok K c) (hc4 : c < 4) (hD : dec x = some D) (hj : j < D.2.length) (hnf : (memQ dec (x, j)).1 ≠ 0) (hrv : RV dec pl K c (x, j) r) (ih : KC cs ad b hi dec pl da ea K c z x j r top sl (d - 1) n)
    (hn : as.length + (n + 1) = (memQ dec (x, j)).2.2.2.2.1.length) (has : ∀ u ∈ as, inK K c u) (hft : fitsL dec as ((memQ dec (x, j)).2.2.2.2.1.take as.length)) (hcst : 1 + recC r + sumC as + left = c) (hP : ∀ s, P0 s → Val dec pl K c s) (hP0 : ∀ s, P0 s → ¬ NA (x, j) r as s) :
    ∀ (m cost : Nat) (σ : am_H) (L : List Ent) (w' : List Nat) (v8 v9 v10 : Option Value), cost + m = left + 1 → cen ad σ b hi dec pl da ea K c z → tgt σ b c L → phr σ (b + 14) ((preT (memQ dec (x, j)) (x, j) r ++ 40 :: sepT as).take 25 ++ w') (memQ dec (x, j)).2.2.2.2.2 c → L8 (ImT dec (Pc dec pl K c (x, j) r as P0 cost 0)) L →
    ∃ (σ' : am_H) (L' : List Ent) (w'' : List Nat), am_to cd_t cs d 83 119 [some (.ref (b + 11)), some (.ref (ea x j)), some (.int (ii as.length)), some (.int (ii left)), some (.int (ii ((preT (memQ dec (x, j)) (x, j) r ++ 40 :: sepT as).take 25).length)), some (.int (ii 24 - ii ((preT (memQ dec (x, j)) (x, j) r ++ 40 :: sepT as).take 25).length - ii 2 * ii n - ii 1)), some (.int last), some (.int (ii cost)), v8, v9, v10] [] σ top sl (.inl none, σ', top, sl) ∧ FR b c σ σ' ∧ tgt σ' b c L' ∧ phr σ' (b + 14) ((preT (memQ dec (x, j)) (x, j) r ++ 40 :: sepT as).take 25 ++ w'') (memQ dec (x, j)).2.2.2.2.2 c ∧ L8 (ImT dec (Pc dec pl K c (x, j) r as P0 (left + 1) 0)) L' := by
  intro m
  induction m with
  | zero =>
    intro cost σ L w' v8 v9 v10 hm hE hT hp hL
    rw [show cost = left + 1 by omega] at hL ⊢
    refine ⟨σ, L, w', ?_, FR.refl b c σ, hT, hp, hL⟩
    refine x_n cd_i83_119 rfl rfl ?_
    refine x_n cd_i83_121 rfl rfl ?_
    show am_to cd_t _ _ 83 122 _ _ _ _ _ _
    refine x_icmp_t cd_i83_122 ((ii_lt (by omega) (by omega)).mpr (Nat.lt_succ_self _)) ?_
    exact x_end cd_i83_230 rfl rfl rfl
  | succ m ihm =>
    intro cost σ L w' v8 v9 v10 hm hE hT hp hL
    have h11 := hE.2.1
    obtain ⟨g, g1, g2⟩ := hE.2.2.1
    obtain ⟨s1, L1, w1, v10', c1, c2, c3, c4, c5⟩ := kc_inner (cs := cs) (top := top) (sl := sl) (last := last) hd hO hrk hK hc4 hD hj hnf hrv ih hn has hft hcst (show cost ≤ left by omega) hP hP0 (K cost).length 0 σ L w' v10 (Nat.zero_add _) hE hT hp hL
    obtain ⟨s2, L2, w2, k1, k2, k3, k4, k5⟩ := ihm (cost + 1) s1 L1 w1 (some (.ref (b + 16 + 18 * cost))) (some (.int (ii (K cost).length))) v10' (by omega) (hE.kept hc4 c1) c2 c3 (ImT_iff c4 Pc_next)
    refine ⟨s2, L2, w2, ?_, c1.trans k2, k3, k4, k5⟩
    refine x_n cd_i83_119 rfl rfl ?_
    refine x_n cd_i83_121 rfl rfl ?_
    show am_to cd_t _ _ 83 122 _ _ _ _ _ _
    refine x_icmp_f cd_i83_122 (fun z => by have := (ii_lt (by omega) (by omega)).mp (show ii left < ii cost from z); omega) ?_
    refine x_n cd_i83_125 rfl rfl ?_
    refine x_getf cd_i83_126 (by assumption) rfl rfl ?_
    refine x_n cd_i83_129 rfl rfl ?_
    show am_to cd_t _ _ 83 131 _ _ _ _ _ _
    refine x_aaload cd_i83_131 g1 (by omega) (by decide) ?_
    rw [g2 cost (by omega)]
    refine x_n cd_i83_132 rfl rfl ?_
    try dsimp only [List.set]
    refine x_ic cd_i83_134 (z := ii 0) rfl ?_
    refine x_n cd_i83_135 rfl rfl ?_
    try dsimp only [List.set]
    show am_to cd_t _ _ 83 137 _ _ _ _ _ _
    refine c5 _ ?_
    refine x_iinc cd_i83_224 rfl (ii_add _ 1) rfl ?_
    refine x_n cd_i83_227 rfl rfl ?_
    show am_to cd_t _ _ 83 119 _ _ _ _ _ _
    exact k1
theorem kc_succ (hd : 2 < d) (hO : catOk dec) (hrk : ranked dec rk) (hK : Kok K c) (hc4 : c < 4) (hD : dec x = some D) (hj : j < D.2.length) (hnf : (memQ dec (x, j)).1 ≠ 0) (hrv : RV dec pl K c (x, j) r) (ih : KC cs ad b hi dec pl da ea K c z x j r top sl (d - 1) n) : KC cs ad b hi dec pl da ea K c z x j r top sl d (n + 1) := by
  intro as left σ L P0 hn has hft hcst hE hT hp hP hP0 hL
  have hx := (hrk x D hD).1
  have em : memQ dec (x, j) = D.2.getD j default := by unfold memQ memsOf; rw [hD]
  have hMok : memOk (memQ dec (x, j)) := by rw [em]; exact (hO x D hD).2.1 _ (getD_mem hj)
  have hp2 := hMok.2.2.2.2.1
  have hWl : low7 (preT (memQ dec (x, j)) (x, j) r ++ 40 :: argT as) := low7_app (preT_low hMok hx (hrv.low hK)) (low7_cons (by decide) (argT_low as (fun u hu => ((has u hu).good hK).2.2.2)))
  have hLl := L8_low hO hrk hK hP hL
  have head := kc_head (cs := cs) (top := top) (sl := sl) (lv := [some (.ref (ea x j)), some (.int (ii as.length)), some (.int (ii left)), none, none, none, none, none, none, none]) (v1 := .null) (v2 := .null) (v3 := .null) hd hE hT hp (low7_take hWl 25) hLl
  cases hr : roomB L ((preT (memQ dec (x, j)) (x, j) r ++ 40 :: argT as).take 25) with
  | false =>
    rw [hr] at head
    refine ⟨σ, L, [], head _ ?_, FR.refl b c σ, hT, by rw [List.append_nil]; exact hp, kc_none hnf hL hr⟩
    refine x_if_f cd_i83_11 (fun z => absurd (show b2i false = 0 from rfl) z) ?_
    exact x_end cd_i83_14 rfl rfl rfl
  | true =>
    rw [hr] at head
    have h11 := hE.2.1
    obtain ⟨mp, mf, e1, e2, e3, e4⟩ := hE.mem hx hD hj
    have go : ∀ res, am_to cd_t cs d 83 49 [some (.ref (b + 11)), some (.ref (ea x j)), some (.int (ii as.length)), some (.int (ii left)), none, none, none, none, none, none, none] [.int (ii as.length)] σ top sl res → am_to cd_t cs d 83 0 (am_ent 11 [.ref (b + 11), .ref (ea x j), .int (ii as.length), .int (ii left)]) [] σ top sl res := by
      intro res hh
      refine head res ?_
      refine x_if_t cd_i83_11 (fun z => absurd (show (1 : Int32) = 0 from z) (by decide)) ?_
      refine x_n cd_i83_15 rfl rfl ?_
      refine x_n cd_i83_16 rfl rfl ?_
      refine x_getf cd_i83_17 (by assumption) rfl rfl ?_
      show am_to cd_t _ _ 83 20 _ _ _ _ _ _
      refine x_icmp_t cd_i83_20 ((ii_lt (by omega) (by omega)).mpr (by omega)) ?_
      refine x_n cd_i83_48 rfl rfl ?_
      show am_to cd_t _ _ 83 49 _ _ _ _ _ _
      exact hh
    obtain ⟨s1, f1, p1, go1⟩ : ∃ s1 : am_H, (∀ y, y ≠ b + 14 → y ≠ b + 14 + 1 → s1 y = σ y) ∧ phr s1 (b + 14) ((preT (memQ dec (x, j)) (x, j) r ++ 40 :: sepT as).take 25) (memQ dec (x, j)).2.2.2.2.2 c ∧ ∀ res, am_to cd_t cs d 83 61 [some (.ref (b + 11)), some (.ref (ea x j)), some (.int (ii as.length)), some (.int (ii left)), none, none, none, none, none, none, none] [] s1 top sl res → am_to cd_t cs d 83 0 (am_ent 11 [.ref (b + 11), .ref (ea x j), .int (ii as.length), .int (ii left)]) [] σ top sl res := by
      by_cases h0 : as = []
      · refine ⟨σ, fun _ _ _ => rfl, ?_, fun res hh => go res (x_if_t cd_i83_49 (show ii as.length ≤ 0 from (by rw [h0]; decide)) hh)⟩
        have e : argT as = sepT as := by rw [h0]; rfl
        rw [← e]
        exact hp
      · obtain ⟨s1, b1, b2, b3⟩ := x_phAdd (cs := cs) (d := d - 1) (top := top) (sl := sl) (c := 44) hp (by decide)
        have hl : 0 < as.length := List.length_pos_iff.mpr h0
        have hp1 := hp.at
        refine ⟨s1, b3, ?_, fun res hh => go res (x_if_f cd_i83_49 (fun z => by have := (ii_le (b := 0) (by omega) (by decide)).mp (show ii as.length ≤ ii 0 from z); omega) ?_)⟩
        · rw [take_app25] at b2
          have e : (preT (memQ dec (x, j)) (x, j) r ++ 40 :: sepT as) = (preT (memQ dec (x, j)) (x, j) r ++ 40 :: argT as) ++ [44] := by
            unfold sepT
            rw [if_neg h0, List.append_assoc]
            rfl
          rw [e]
          exact b2
        · refine x_n cd_i83_52 rfl rfl ?_
          refine x_getf cd_i83_53 h11 rfl rfl ?_
          refine x_bi cd_i83_56 (z := ii 44) (by decide) ?_
          exact x_callv (as' := [.int (ii 44)]) (r := none) cd_i83_58 hp1 (by omega) rfl rfl rfl rfl rfl rfl b1 hh
    have E1 := hE.kept hc4 (FR.draft f1)
    have g11 := E1.2.1
    have p11 := p1.at
    obtain ⟨mp', mf', k1, k2, k3, k4⟩ := E1.mem hx hD hj
    have go2 : ∀ res, am_to cd_t cs d 83 97 [some (.ref (b + 11)), some (.ref (ea x j)), some (.int (ii as.length)), some (.int (ii left)), some (.int (ii ((preT (memQ dec (x, j)) (x, j) r ++ 40 :: sepT as).take 25).length)), some (.int (ii 24 - ii ((preT (memQ dec (x, j)) (x, j) r ++ 40 :: sepT as).take 25).length - ii 2 * ii n - ii 1)), none, none, none, none, none] [.int (ii (memQ dec (x, j)).2.2.2.2.1.length), .int (ii (as.length + 1))] s1 top sl res → am_to cd_t cs d 83 0 (am_ent 11 [.ref (b + 11), .ref (ea x j), .int (ii as.length), .int (ii left)]) [] σ top sl res := by
      intro res hh
      refine go1 res ?_
      refine x_n cd_i83_61 rfl rfl ?_
      refine x_getf cd_i83_62 g11 rfl rfl ?_
      refine x_getf cd_i83_65 p11 rfl rfl ?_
      refine x_n cd_i83_68 rfl rfl ?_
      dsimp only [List.set]
      refine x_bi cd_i83_70 (z := ii 24) (by decide) ?_
      refine x_n cd_i83_72 rfl rfl ?_
      refine x_isub cd_i83_74 rfl ?_
      refine x_ic cd_i83_75 (z := ii 2) rfl ?_
      refine x_n cd_i83_76 rfl rfl ?_
      refine x_getf cd_i83_77 k1 rfl rfl ?_
      refine x_n cd_i83_80 rfl rfl ?_
      refine x_isub cd_i83_81 (ii_sub (by omega)) ?_
      refine x_ic cd_i83_82 (z := ii 1) rfl ?_
      refine x_isub cd_i83_83 (z := ii n) (by rw [ii_sub (b := 1) (by omega)]; congr 1; omega) ?_
      refine x_imul cd_i83_84 rfl ?_
      refine x_isub cd_i83_85 rfl ?_
      refine x_ic cd_i83_86 (z := ii 1) rfl ?_
      refine x_isub cd_i83_87 rfl ?_
      refine x_n cd_i83_88 rfl rfl ?_
      dsimp only [List.set]
      refine x_n cd_i83_90 rfl rfl ?_
      refine x_ic cd_i83_91 (z := ii 1) rfl ?_
      refine x_iadd cd_i83_92 (ii_add _ 1) ?_
      refine x_n cd_i83_93 rfl rfl ?_
      refine x_getf cd_i83_94 k1 rfl rfl ?_
      exact hh
    have fin : ∀ s, Pc dec pl K c (x, j) r as P0 (left + 1) 0 s ↔ (P0 s ∨ (Val dec pl K c s ∧ NA (x, j) r as s)) := by
      intro s
      unfold Pc
      constructor
      · rintro (h | ⟨h1, h2, h3, A, bs, h4, h5⟩)
        · exact Or.inl h
        · exact Or.inr ⟨h1, h2, h3, A :: bs, h4⟩
      · rintro (h | ⟨h1, h2, h3, bs, h4⟩)
        · exact Or.inl h
        · have l1 := fitsL_len h1.2.2.2.1
          rw [h4, h2, List.length_append] at l1
          cases bs with
          | nil =>
            rw [List.length_nil] at l1
            omega
          | cons A bs =>
            refine Or.inr ⟨h1, h2, h3, A, bs, h4, Or.inl ?_⟩
            have h5 := h1.2.2.2.2
            rw [h3, h4, sumC_app, sumC_cons] at h5
            omega
    obtain ⟨R, hR⟩ : ∃ R, (preT (memQ dec (x, j)) (x, j) r ++ 40 :: sepT as).take 25 = (preT (memQ dec (x, j)) (x, j) r ++ 40 :: argT as).take 25 ++ R := by
      obtain ⟨q, hq⟩ := sepT_pre as
      have e : (preT (memQ dec (x, j)) (x, j) r ++ 40 :: sepT as) = (preT (memQ dec (x, j)) (x, j) r ++ 40 :: argT as) ++ q := by
        rw [hq, List.append_assoc]
        rfl
      exact ⟨_, by rw [e, List.take_append]⟩
    have done : ∀ {cost : Nat} {last : Int32}, cost ≤ left + 1 → L8 (ImT dec (Pc dec pl K c (x, j) r as P0 cost 0)) L → (∀ res, am_to cd_t cs d 83 119 [some (.ref (b + 11)), some (.ref (ea x j)), some (.int (ii as.length)), some (.int (ii left)), some (.int (ii ((preT (memQ dec (x, j)) (x, j) r ++ 40 :: sepT as).take 25).length)), some (.int (ii 24 - ii ((preT (memQ dec (x, j)) (x, j) r ++ 40 :: sepT as).take 25).length - ii 2 * ii n - ii 1)), some (.int last), some (.int (ii cost)), none, none, none] [] s1 top sl res → am_to cd_t cs d 83 0 (am_ent 11 [.ref (b + 11), .ref (ea x j), .int (ii as.length), .int (ii left)]) [] σ top sl res) →
        ∃ (σ' : am_H) (L' : List Ent) (w' : List Nat), am_to cd_t cs d 83 0 (am_ent 11 [.ref (b + 11), .ref (ea x j), .int (ii as.length), .int (ii left)]) [] σ top sl (.inl none, σ', top, sl) ∧ FR b c σ σ' ∧ tgt σ' b c L' ∧ phr σ' (b + 14) ((preT (memQ dec (x, j)) (x, j) r ++ 40 :: argT as).take 25 ++ w') (memQ dec (x, j)).2.2.2.2.2 c ∧ L8 (ImT dec (fun s => P0 s ∨ (Val dec pl K c s ∧ NA (x, j) r as s))) L' := by
      intro cost last hcl hl gg
      obtain ⟨s2, L2, w2, c1, c2, c3, c4, c5⟩ := kc_outer (cs := cs) (top := top) (sl := sl) (last := last) hd hO hrk hK hc4 hD hj hnf hrv ih hn has hft hcst hP hP0 (left + 1 - cost) cost s1 L [] none none none (by omega) E1 (hT.draft f1) (by rw [List.append_nil]; exact p1) hl
      refine ⟨s2, L2, R ++ w2, gg _ c1, (FR.draft f1).trans c2, c3, ?_, ImT_iff c5 fin⟩
      rw [← List.append_assoc, ← hR]
      exact c4
    by_cases h0 : n = 0
    · refine done (cost := left) (last := ii 1) (by omega) (ImT_iff hL (fun s => ⟨fun h => Or.inl h, fun h => ?_⟩)) (fun res hh => go2 res ?_)
      · rcases h with h | ⟨h1, h2, h3, A, bs, h4, h5⟩
        · exact h
        · rcases h5 with h5 | ⟨-, h5⟩
          · have l1 := fitsL_len h1.2.2.2.1
            rw [h4, h2, List.length_append, List.length_cons] at l1
            have e : bs = [] := List.length_eq_zero_iff.mp (by omega)
            have h6 := h1.2.2.2.2
            rw [h3, h4, sumC_app, sumC_cons, e] at h6
            have h6 : 1 + recC r + (sumC as + (cst A.1 + 0)) = c := h6
            omega
          · rw [List.take_zero] at h5
            cases h5
      · refine x_icmp_f cd_i83_97 (fun z => z (congrArg ii (by omega))) ?_
        refine x_ic cd_i83_100 (z := ii 1) rfl ?_
        refine x_n cd_i83_101 rfl rfl ?_
        refine x_n cd_i83_105 rfl rfl ?_
        try dsimp only [List.set]
        refine x_n cd_i83_107 rfl rfl ?_
        show am_to cd_t _ _ 83 109 _ _ _ _ _ _
        refine x_if_f cd_i83_109 (fun z => absurd (show ii 1 = 0 from z) (by decide)) ?_
        refine x_n cd_i83_112 rfl rfl ?_
        refine x_n cd_i83_113 rfl rfl ?_
        refine x_n cd_i83_117 rfl rfl ?_
        try dsimp only [List.set]
        show am_to cd_t _ _ 83 119 _ _ _ _ _ _
        exact hh
    · refine done (cost := 0) (last := ii 0) (by omega) (ImT_iff hL (fun s => ⟨fun h => Or.inl h, fun h => ?_⟩)) (fun res hh => go2 res ?_)
      · rcases h with h | ⟨h1, h2, h3, A, bs, h4, h5⟩
        · exact h
        · rcases h5 with h5 | ⟨-, h5⟩
          · omega
          · rw [List.take_zero] at h5
            cases h5
      · refine x_icmp_t cd_i83_97 (fun z => by have := (ii_eq (by omega) (by omega)).mp z; omega) ?_
        refine x_ic cd_i83_104 (z := ii 0) rfl ?_
        refine x_n cd_i83_105 rfl rfl ?_
        try dsimp only [List.set]
        refine x_n cd_i83_107 rfl rfl ?_
        show am_to cd_t _ _ 83 109 _ _ _ _ _ _
        refine x_if_t cd_i83_109 rfl ?_
        refine x_ic cd_i83_116 (z := ii 0) rfl ?_
        refine x_n cd_i83_117 rfl rfl ?_
        try dsimp only [List.set]
        show am_to cd_t _ _ 83 119 _ _ _ _ _ _
        exact hh
theorem kc_all (hO : catOk dec) (hrk : ranked dec rk) (hK : Kok K c) (hc4 : c < 4) (hD : dec x = some D) (hj : j < D.2.length) (hnf : (memQ dec (x, j)).1 ≠ 0) (hrv : RV dec pl K c (x, j) r) : ∀ (n d : Nat), n + 2 < d → KC cs ad b hi dec pl da ea K c z x j r top sl d n
  | 0, d, h => kc_zero (by omega) hO hrk hK hc4 hD hj hnf hrv
  | n + 1, d, h => kc_succ (by omega) hO hrk hK hc4 hD hj hnf hrv (kc_all hO hrk hK hc4 hD hj hnf hrv n (d - 1) (by omega))
end KCU
