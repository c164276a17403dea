def PSS (dec : Nat → Option Dec) (pl : Int32) (K : Nat → List Ent) (c : Nat) (A : Ent) (P0 : Tup → Prop) (S : Nat → Prop) (s : Tup) : Prop := P0 s ∨ (Val dec pl K c s ∧ s.2.1 = some A ∧ S s.1.1)
def PSJ (dec : Nat → Option Dec) (pl : Int32) (K : Nat → List Ent) (c : Nat) (A : Ent) (P1 : Tup → Prop) (x j : Nat) (s : Tup) : Prop := P1 s ∨ (Val dec pl K c s ∧ s.2.1 = some A ∧ s.1.1 = x ∧ s.1.2 < j)
theorem fsL_in {dec : Nat → Option Dec} {pl : Int32} {k x j : Nat} {w : List Nat} : ∀ (l : List Nat), fsL dec pl k w l = some (x, j) → x ∈ l
  | [], h => by cases h
  | y :: l, h => by
    rw [fsL] at h
    split at h
    · have := (Prod.mk.inj (Option.some.inj h)).1
      rw [this]
      exact List.mem_cons_self
    · exact List.mem_cons_of_mem _ (fsL_in l h)
theorem snB_in {dec : Nat → Option Dec} {pl : Int32} {c x j : Nat} (h : snB dec pl c x j = true) : x ∈ chain dec 11 c ∧ (memQ dec (x, j)).1 ≠ 2 := by
  unfold snB at h
  rw [Bool.and_eq_true, beq_iff_eq] at h
  refine ⟨fsL_in _ h.2, fun z => ?_⟩
  have h1 := h.1
  have e : (memsOf dec x).getD j default = memQ dec (x, j) := rfl
  rw [e, z] at h1
  cases h1
section KSE
variable {cs : Nat → Value} {ad : Nat → Nat} {b hi : Nat} {dec : Nat → Option Dec} {pl : Int32} {da : Nat → Nat} {ea : Nat → Nat → Nat} {K : Nat → List Ent} {c : Nat} {z : Int32} {x : Nat} {top sl d : Nat} {rk : Nat → Nat} {D : Dec} {A : Ent}
theorem PSJ_step {P1 : Tup → Prop} {j : Nat} (s : Tup) : (PSJ dec pl K c A P1 x j s ∨ (Val dec pl K c s ∧ s.1 = (x, j) ∧ s.2.1 = some A)) ↔ PSJ dec pl K c A P1 x (j + 1) s := by
  unfold PSJ
  constructor
  · rintro ((h | ⟨h1, h2, h3, h4⟩) | ⟨h1, h2, h3⟩)
    · exact Or.inl h
    · exact Or.inr ⟨h1, h2, h3, by omega⟩
    · exact Or.inr ⟨h1, h3, by rw [h2], by rw [h2]; exact Nat.lt_succ_self _⟩
  · rintro (h | ⟨h1, h2, h3, h4⟩)
    · exact Or.inl (Or.inl h)
    · by_cases e : s.1.2 = j
      · exact Or.inr ⟨h1, Prod.ext h3 e, h2⟩
      · exact Or.inl (Or.inr ⟨h1, h2, h3, by omega⟩)
theorem x_sel_loop {left pA : Nat} {P1 : Tup → Prop} (hd : 6 < d) (hcs : csOk cs ad) (hO : catOk dec) (hrk : ranked dec rk) (hK : Kok K c) (hc4 : c < 4) (hD : dec x = some D) (hA : inK K c A) (hA3 : 3 ≤ A.2) (hcst : 1 + cst A.1 + left = c) (hP : ∀ s, P1 s → Val dec pl K c s) (hP1 : ∀ s, P1 s → ¬ (s.1.1 = x ∧ s.2.1 = some A)) :
    ∀ (m j : Nat) (σ : am_H) (L : List Ent) (w : List Nat) (ty : Nat) (v7 : Option Value), j + m = D.2.length → cen ad σ b hi dec pl da ea K c z → tgt σ b c L → phr σ (b + 14) ((A.1 ++ [46]).take 25 ++ w) ty c → L8 (ImT dec (PSJ dec pl K c A P1 x j)) L →
    ∃ (σ' : am_H) (L' : List Ent) (w' : List Nat) (ty' : Nat) (v7' : Option Value), FR b c σ σ' ∧ tgt σ' b c L' ∧ phr σ' (b + 14) ((A.1 ++ [46]).take 25 ++ w') ty' c ∧ L8 (ImT dec (PSJ dec pl K c A P1 x D.2.length)) L' ∧
      ∀ res, am_to cd_t cs d 85 142 [some (.ref (b + 11)), some (.ref pA), some (.int (ii left)), some (.int (ii ((A.1 ++ [46]).take 25).length)), some (.int (ii (A.2 - 3))), some (.ref (da x)), some (.int (ii D.2.length)), v7'] [] σ' top sl res → am_to cd_t cs d 85 75 [some (.ref (b + 11)), some (.ref pA), some (.int (ii left)), some (.int (ii ((A.1 ++ [46]).take 25).length)), some (.int (ii (A.2 - 3))), some (.ref (da x)), some (.int (ii j)), v7] [] σ top sl res := by
  have hx := (hrk x D hD).1
  have hA13 := (hA.good hK).2.1
  intro m
  induction m with
  | zero =>
    intro j σ L w ty v7 hm hE hT hp hL
    obtain ⟨q1, q2, qr, qg, q3, q4, q5, q6, q7, q8⟩ := hE.1.2.2.1 x D hx hD
    rw [show j = D.2.length by omega] at hL ⊢
    refine ⟨σ, L, w, ty, v7, FR.refl b c σ, hT, hp, hL, fun res hh => ?_⟩
    refine x_n cd_i85_75 rfl rfl ?_
    refine x_n cd_i85_77 rfl rfl ?_
    refine x_getf cd_i85_79 (by assumption) rfl rfl ?_
    show am_to cd_t _ _ 85 82 _ _ _ _ _ _
    exact x_icmp_t cd_i85_82 ((ii_le (by omega) (by omega)).mpr (Nat.le_refl _)) hh
  | succ m ihm =>
    intro j σ L w ty v7 hm hE hT hp hL
    obtain ⟨q1, q2, qr, qg, q3, q4, q5, q6, q7, q8⟩ := hE.1.2.2.1 x D hx hD
    have hj : j < D.2.length := by omega
    have em : memQ dec (x, j) = D.2.getD j default := by unfold memQ memsOf; rw [hD]
    have hMok : memOk (memQ dec (x, j)) := by rw [em]; exact (hO x D hD).2.1 _ (getD_mem hj)
    have h11 := hE.2.1
    have hp1 := hp.at
    have hs := x_isSeen (cs := cs) (d := d - 1) (top := top) (sl := sl) (c := A.2 - 3) (by omega) hcs hE.1 hO hrk (by omega) hD hj
    have go : ∀ res, am_to cd_t cs d 85 106 [some (.ref (b + 11)), some (.ref pA), some (.int (ii left)), some (.int (ii ((A.1 ++ [46]).take 25).length)), some (.int (ii (A.2 - 3))), some (.ref (da x)), some (.int (ii j)), some (.ref (ea x j))] [.int (b2i (snB dec pl (A.2 - 3) x j))] σ top sl res → am_to cd_t cs d 85 75 [some (.ref (b + 11)), some (.ref pA), some (.int (ii left)), some (.int (ii ((A.1 ++ [46]).take 25).length)), some (.int (ii (A.2 - 3))), some (.ref (da x)), some (.int (ii j)), v7] [] σ top sl res := by
      intro res hh
      refine x_n cd_i85_75 rfl rfl ?_
      refine x_n cd_i85_77 rfl rfl ?_
      refine x_getf cd_i85_79 (by assumption) rfl rfl ?_
      show am_to cd_t _ _ 85 82 _ _ _ _ _ _
      refine x_icmp_f cd_i85_82 (fun z => by have := (ii_le (by omega) (by omega)).mp (show ii D.2.length ≤ ii j from z); omega) ?_
      refine x_n cd_i85_85 rfl rfl ?_
      refine x_getf cd_i85_87 (by assumption) rfl rfl ?_
      refine x_n cd_i85_90 rfl rfl ?_
      show am_to cd_t _ _ 85 92 _ _ _ _ _ _
      refine x_aaload cd_i85_92 q6 (show j < 6 by omega) (by decide) ?_
      rw [(q8 j hj).1]
      refine x_n cd_i85_93 rfl rfl ?_
      dsimp only [List.set]
      refine x_n cd_i85_95 rfl rfl ?_
      refine x_getf cd_i85_96 h11 rfl rfl ?_
      refine x_n cd_i85_99 rfl rfl ?_
      refine x_n cd_i85_101 rfl rfl ?_
      show am_to cd_t _ _ 85 103 _ _ _ _ _ _
      exact x_callv (as' := [.int (ii (A.2 - 3)), .ref (ea x j)]) cd_i85_103 hE.1.1 (by omega) rfl rfl rfl rfl rfl rfl hs hh
    have nxt : ∀ {σ1 : am_H} {L1 : List Ent} {w1 : List Nat} {t1 : Nat}, FR b c σ σ1 → tgt σ1 b c L1 → phr σ1 (b + 14) ((A.1 ++ [46]).take 25 ++ w1) t1 c → L8 (ImT dec (PSJ dec pl K c A P1 x (j + 1))) L1 → (∀ res, am_to cd_t cs d 85 136 [some (.ref (b + 11)), some (.ref pA), some (.int (ii left)), some (.int (ii ((A.1 ++ [46]).take 25).length)), some (.int (ii (A.2 - 3))), some (.ref (da x)), some (.int (ii j)), some (.ref (ea x j))] [] σ1 top sl res → am_to cd_t cs d 85 75 [some (.ref (b + 11)), some (.ref pA), some (.int (ii left)), some (.int (ii ((A.1 ++ [46]).take 25).length)), some (.int (ii (A.2 - 3))), some (.ref (da x)), some (.int (ii j)), v7] [] σ top sl res) →
        ∃ (σ' : am_H) (L' : List Ent) (w' : List Nat) (ty' : Nat) (v7' : Option Value), FR b c σ σ' ∧ tgt σ' b c L' ∧ phr σ' (b + 14) ((A.1 ++ [46]).take 25 ++ w') ty' c ∧ L8 (ImT dec (PSJ dec pl K c A P1 x D.2.length)) L' ∧
          ∀ res, am_to cd_t cs d 85 142 [some (.ref (b + 11)), some (.ref pA), some (.int (ii left)), some (.int (ii ((A.1 ++ [46]).take 25).length)), some (.int (ii (A.2 - 3))), some (.ref (da x)), some (.int (ii D.2.length)), v7'] [] σ' top sl res → am_to cd_t cs d 85 75 [some (.ref (b + 11)), some (.ref pA), some (.int (ii left)), some (.int (ii ((A.1 ++ [46]).take 25).length)), some (.int (ii (A.2 - 3))), some (.ref (da x)), some (.int (ii j)), v7] [] σ top sl res := by
      intro σ1 L1 w1 t1 f1 T1 p1 l1 gg
      obtain ⟨s2, L2, w2, ty2, v72, c1, c2, c3, c4, c5⟩ := ihm (j + 1) σ1 L1 w1 t1 (some (.ref (ea x j))) (by omega) (hE.kept hc4 f1) T1 p1 l1
      refine ⟨s2, L2, w2, ty2, v72, f1.trans c1, c2, c3, c4, fun res hh => gg res ?_⟩
      refine x_iinc cd_i85_136 rfl (ii_add _ 1) rfl ?_
      refine x_n cd_i85_139 rfl rfl ?_
      show am_to cd_t _ _ 85 75 _ _ _ _ _ _
      exact c5 res hh
    cases hsn : snB dec pl (A.2 - 3) x j with
    | false =>
      rw [hsn] at go
      refine nxt (FR.refl b c σ) hT hp (ImT_iff hL (fun s => ⟨fun h => (PSJ_step s).mp (Or.inl h), fun h => ?_⟩)) (fun res hh => go res (x_if_t cd_i85_106 rfl hh))
      rcases (PSJ_step s).mpr h with h | ⟨h1, h2, h3⟩
      · exact h
      · have hr := h1.rv
        rw [h2, h3] at hr
        have hr : snB dec pl (A.2 - 3) x j = true := hr.2.2
        rw [hsn] at hr
        cases hr
    | true =>
      rw [hsn] at go
      have hm2 := (snB_in hsn).2
      have epre : preT (memQ dec (x, j)) (x, j) (some A) = (A.1 ++ [46]) ++ (memQ dec (x, j)).2.2.2.1 := by
        unfold preT
        rw [if_neg hm2, List.append_assoc]
        rfl
      obtain ⟨s1, hs1⟩ : ∃ t, t = am_up σ (b + 14) (.inr (.inl (8, [.ref (b + 14 + 1), .int (ii ((A.1 ++ [46]).take 25).length), .int (ii ty), .int (ii c)]))) := ⟨_, rfl⟩
      have p1 : phr s1 (b + 14) ((A.1 ++ [46]).take 25) ty c := hs1 ▸ hp.cut
      have f1 : ∀ y, y ≠ b + 14 → y ≠ b + 14 + 1 → s1 y = σ y := fun y y1 _ => by rw [hs1, am_up_ne _ _ y1]
      obtain ⟨s2, a1, a2, a3⟩ := x_phName (cs := cs) (d := d - 1) (top := top) (sl := sl) (v := (memQ dec (x, j)).2.2.2.1) (by omega) p1 hMok.2.1.1 hMok.2.1.2
      rw [take_app25, ← epre] at a2
      have f2 : ∀ y, y ≠ b + 14 → y ≠ b + 14 + 1 → s2 y = σ y := fun y y1 y2 => (a3 y y1 y2).trans (f1 y y1 y2)
      have E1 := hE.kept hc4 (FR.draft f1)
      have E2 := hE.kept hc4 (FR.draft f2)
      obtain ⟨mp, mf, e1, -⟩ := E1.mem hx hD hj
      obtain ⟨s3, L3, w3, c1, c2, c3, c4, c5⟩ := x_uses (cs := cs) (d := d - 1) (top := top) (sl := sl) (left := left) (P0 := PSJ dec pl K c A P1 x j) (r := some A) (by omega) hcs hO hrk hK hc4 hD hj ⟨hA, hA3, hsn⟩ hcst E2 (hT.draft f2) a2 (fun s hs => by
          rcases hs with h | h
          · exact hP s h
          · exact h.1) (fun s hs he => by
          rcases hs with h | ⟨-, -, -, h⟩
          · exact hP1 s h ⟨by rw [he.1], he.2⟩
          · rw [he.1] at h
            exact absurd h (Nat.lt_irrefl _)) hL
      obtain ⟨w4, hw4⟩ : ∃ w4, (preT (memQ dec (x, j)) (x, j) (some A)).take 25 = (A.1 ++ [46]).take 25 ++ w4 := ⟨_, by rw [epre, List.take_append]⟩
      rw [hw4, List.append_assoc] at c4
      have g1 := E1.2.1
      have g2 := E2.2.1
      have p11 := p1.at
      refine nxt ((FR.draft f2).trans c2) c3 c4 (ImT_iff c5 PSJ_step) (fun res hh => go res ?_)
      refine x_if_f cd_i85_106 (fun z => absurd (show (1 : Int32) = 0 from z) (by decide)) ?_
      refine x_n cd_i85_109 rfl rfl ?_
      refine x_getf cd_i85_110 h11 rfl rfl ?_
      refine x_n cd_i85_113 rfl rfl ?_
      refine x_putf cd_i85_114 (fs' := [.ref (b + 14 + 1), .int (ii ((A.1 ++ [46]).take 25).length), .int (ii ty), .int (ii c)]) hp1 rfl rfl rfl ?_
      refine hs1 ▸ ?_
      refine x_n cd_i85_117 rfl rfl ?_
      refine x_getf cd_i85_118 g1 rfl rfl ?_
      refine x_n cd_i85_121 rfl rfl ?_
      refine x_getf cd_i85_123 e1 rfl rfl ?_
      refine x_callv (as' := [.int (ii (n256 (memQ dec (x, j)).2.2.2.1))]) (r := none) cd_i85_126 p11 (by omega) rfl rfl rfl rfl rfl rfl a1 ?_
      refine x_n cd_i85_129 rfl rfl ?_
      refine x_n cd_i85_130 rfl rfl ?_
      refine x_n cd_i85_132 rfl rfl ?_
      show am_to cd_t _ _ 85 133 _ _ _ _ _ _
      exact x_callv (as' := [.ref (ea x j), .int (ii left)]) (r := none) cd_i85_133 g2 (by omega) rfl rfl rfl rfl rfl rfl c1 hh
theorem x_sel_chain {left pA : Nat} {P0 : Tup → Prop} (hd : 6 < d) (hcs : csOk cs ad) (hO : catOk dec) (hrk : ranked dec rk) (hK : Kok K c) (hc4 : c < 4) (hA : inK K c A) (hA3 : 3 ≤ A.2) (hcst : 1 + cst A.1 + left = c) (hP : ∀ s, P0 s → Val dec pl K c s) (hP0 : ∀ s, P0 s → ¬ s.2.1 = some A) :
    ∀ (n x : Nat) (D : Dec) (S : Nat → Prop) (σ : am_H) (L : List Ent) (w : List Nat) (ty : Nat) (v6 v7 : Option Value), deep dec n x → dec x = some D → (∀ y, S y → rk x < rk y) → cen ad σ b hi dec pl da ea K c z → tgt σ b c L → phr σ (b + 14) ((A.1 ++ [46]).take 25 ++ w) ty c → L8 (ImT dec (PSS dec pl K c A P0 S)) L →
    ∃ (σ' : am_H) (L' : List Ent) (w' : List Nat) (ty' : Nat), am_to cd_t cs d 85 67 [some (.ref (b + 11)), some (.ref pA), some (.int (ii left)), some (.int (ii ((A.1 ++ [46]).take 25).length)), some (.int (ii (A.2 - 3))), some (.ref (da x)), v6, v7] [] σ top sl (.inl none, σ', top, sl) ∧ FR b c σ σ' ∧ tgt σ' b c L' ∧ phr σ' (b + 14) ((A.1 ++ [46]).take 25 ++ w') ty' c ∧ L8 (ImT dec (PSS dec pl K c A P0 (fun y => S y ∨ y ∈ chain dec n x))) L'
  | 0, x, D, S, σ, L, w, ty, v6, v7, h, _, _, _, _, _, _ => absurd h id
  | n + 1, x, D, S, σ, L, w, ty, v6, v7, ⟨hx, hdeep⟩, hD, hS, hE, hT, hp, hL => by
    have ech : chain dec (n + 1) x = x :: (match D.1 with | none => [] | some p => chain dec n p) := by
      rw [chain_succ]
      unfold abv
      rw [hD]
      rfl
    obtain ⟨s1, L1, w1, t1, v7', c1, c2, c3, c4, c5⟩ := x_sel_loop (cs := cs) (top := top) (sl := sl) (pA := pA) (P1 := PSS dec pl K c A P0 S) hd hcs hO hrk hK hc4 hD hA hA3 hcst (fun s hs => by
        rcases hs with h | h
        · exact hP s h
        · exact h.1) (fun s hs he => by
        rcases hs with h | ⟨-, -, h⟩
        · exact hP0 s h he.2
        · rw [he.1] at h
          exact absurd (hS x h) (Nat.lt_irrefl _)) D.2.length 0 σ L w ty v7 (Nat.zero_add _) hE hT hp (ImT_iff hL (fun s => ⟨Or.inl, fun h => by
        rcases h with h | ⟨-, -, -, h⟩
        · exact h
        · exact absurd h (Nat.not_lt_zero _)⟩))
    have eS : ∀ s, PSJ dec pl K c A (PSS dec pl K c A P0 S) x D.2.length s ↔ PSS dec pl K c A P0 (fun y => S y ∨ y = x) s := by
      intro s
      unfold PSJ PSS
      constructor
      · rintro ((h | ⟨h1, h2, h3⟩) | ⟨h1, h2, h3, -⟩)
        · exact Or.inl h
        · exact Or.inr ⟨h1, h2, Or.inl h3⟩
        · exact Or.inr ⟨h1, h2, Or.inr h3⟩
      · rintro (h | ⟨h1, h2, h3 | h3⟩)
        · exact Or.inl (Or.inl h)
        · exact Or.inl (Or.inr ⟨h1, h2, h3⟩)
        · obtain ⟨D', hD', hj'⟩ := h1.1
          rw [h3, hD] at hD'
          have e := Option.some.inj hD'
          rw [← e] at hj'
          exact Or.inr ⟨h1, h2, h3, hj'⟩
    have c4 := ImT_iff c4 eS
    have E1 := hE.kept hc4 c1
    obtain ⟨q1, q2, qr, qg, q3, q4, q5, q6, q7, q8⟩ := E1.1.2.2.1 x D hx hD
    have go : ∀ res, am_to cd_t cs d 85 142 [some (.ref (b + 11)), some (.ref pA), some (.int (ii left)), some (.int (ii ((A.1 ++ [46]).take 25).length)), some (.int (ii (A.2 - 3))), some (.ref (da x)), some (.int (ii D.2.length)), v7'] [] s1 top sl res → am_to cd_t cs d 85 67 [some (.ref (b + 11)), some (.ref pA), some (.int (ii left)), some (.int (ii ((A.1 ++ [46]).take 25).length)), some (.int (ii (A.2 - 3))), some (.ref (da x)), v6, v7] [] σ top sl res := by
      intro res hh
      refine x_n cd_i85_67 rfl rfl ?_
      show am_to cd_t _ _ 85 69 _ _ _ _ _ _
      refine x_null_f cd_i85_69 ?_
      refine x_ic cd_i85_72 (z := ii 0) rfl ?_
      refine x_n cd_i85_73 rfl rfl ?_
      try dsimp only [List.set]
      show am_to cd_t _ _ 85 75 _ _ _ _ _ _
      exact c5 res hh
    rw [ech]
    cases hpar : D.1 with
    | none =>
      rw [hpar] at q5
      refine ⟨s1, L1, w1, t1, go _ ?_, c1, c2, c3, ImT_iff c4 (fun s => ?_)⟩
      · refine x_n cd_i85_142 rfl rfl ?_
        refine x_getf cd_i85_144 q5 rfl rfl ?_
        refine x_n cd_i85_147 rfl rfl ?_
        try dsimp only [List.set]
        refine x_n cd_i85_149 rfl rfl ?_
        refine x_n cd_i85_67 rfl rfl ?_
        show am_to cd_t _ _ 85 69 _ _ _ _ _ _
        refine x_null_t cd_i85_69 ?_
        exact x_end cd_i85_152 rfl rfl rfl
      · unfold PSS
        simp only [List.mem_singleton]
    | some p =>
      rw [hpar] at q5
      obtain ⟨-, ⟨D', hD'⟩, hlt⟩ := (hrk x D hD).2.2 p hpar
      obtain ⟨s2, L2, w2, t2, k1, k2, k3, k4, k5⟩ := x_sel_chain hd hcs hO hrk hK hc4 hA hA3 hcst hP hP0 n p D' (fun y => S y ∨ y = x) s1 L1 w1 t1 (some (.int (ii D.2.length))) v7' (hdeep D p hD hpar) hD' (fun y hy => by
        rcases hy with h | h
        · have := hS y h
          omega
        · rw [h]
          exact hlt) E1 c2 c3 c4
      refine ⟨s2, L2, w2, t2, go _ ?_, c1.trans k2, k3, k4, ImT_iff k5 (fun s => ?_)⟩
      · refine x_n cd_i85_142 rfl rfl ?_
        refine x_getf cd_i85_144 q5 rfl rfl ?_
        refine x_n cd_i85_147 rfl rfl ?_
        try dsimp only [List.set]
        refine x_n cd_i85_149 rfl rfl ?_
        show am_to cd_t _ _ 85 67 _ _ _ _ _ _
        exact k1
      · unfold PSS
        simp only [List.mem_cons, or_assoc]
theorem x_select {σ : am_H} {L : List Ent} {w : List Nat} {ty left pA spent : Nat} {P0 : Tup → Prop} (hd : 6 < d) (hcs : csOk cs ad) (hO : catOk dec) (hrk : ranked dec rk) (hK : Kok K c) (hc4 : c < 4) (hA : inK K c A) (hcst : 1 + cst A.1 + left = c) (hE : cen ad σ b hi dec pl da ea K c z) (hT : tgt σ b c L) (hp : phr σ (b + 14) w ty c) (hpA : phr σ pA A.1 A.2 spent) (hpo : b + 16 ≤ pA) (hpu : pA + 1 < b + 16 + 18 * c) (hP : ∀ s, P0 s → Val dec pl K c s) (hP0 : ∀ s, P0 s → ¬ s.2.1 = some A) (hL : L8 (ImT dec P0) L) :
    ∃ (σ' : am_H) (L' : List Ent) (w' : List Nat) (ty' : Nat), am_to cd_t cs d 85 0 (am_ent 8 [.ref (b + 11), .ref pA, .int (ii left)]) [] σ top sl (.inl none, σ', top, sl) ∧ FR b c σ σ' ∧ tgt σ' b c L' ∧ phr σ' (b + 14) w' ty' c ∧ L8 (ImT dec (fun s => P0 s ∨ (Val dec pl K c s ∧ s.2.1 = some A))) L' := by
  obtain ⟨hAg, hA13, hA24, hAl⟩ := hA.good hK
  have h11 := hE.2.1
  have hp1 := hp.at
  obtain ⟨s1, hs1⟩ : ∃ t, t = am_up σ (b + 14) (.inr (.inl (8, [.ref (b + 14 + 1), .int (ii 0), .int (ii ty), .int (ii c)]))) := ⟨_, rfl⟩
  have p1 : phr s1 (b + 14) [] ty c := by
    rw [hs1]
    exact phr.cut (w := []) (r := w) hp
  have f1 : ∀ y, y ≠ b + 14 → y ≠ b + 14 + 1 → s1 y = σ y := fun y y1 _ => by rw [hs1, am_up_ne _ _ y1]
  have hpA1 : phr s1 pA A.1 A.2 spent := hpA.kept (f1 _ (by omega) (by omega)) (f1 _ (by omega) (by omega))
  obtain ⟨s2, a1, a2, a3⟩ := x_phApp (cs := cs) (d := d - 1) (top := top) (sl := sl) (by omega) p1 hpA1 (by omega) (by omega) (by omega)
  rw [List.nil_append] at a2
  obtain ⟨s3, b1, b2, b3⟩ := x_phAdd (cs := cs) (d := d - 1) (top := top) (sl := sl) (c := 46) a2 (by decide)
  rw [take_app25] at b2
  have f2 : ∀ y, y ≠ b + 14 → y ≠ b + 14 + 1 → s2 y = σ y := fun y y1 y2 => (a3 y y1 y2).trans (f1 y y1 y2)
  have f3 : ∀ y, y ≠ b + 14 → y ≠ b + 14 + 1 → s3 y = σ y := fun y y1 y2 => (b3 y y1 y2).trans (f2 y y1 y2)
  have g1 := (hE.kept hc4 (FR.draft f1)).2.1
  have g2 := (hE.kept hc4 (FR.draft f2)).2.1
  have E3 := hE.kept hc4 (FR.draft f3)
  have g3 := E3.2.1
  have T3 := hT.draft f3
  have hpA3 : phr s3 pA A.1 A.2 spent := hpA.kept (f3 _ (by omega) (by omega)) (f3 _ (by omega) (by omega))
  have hwl : low7 ((A.1 ++ [46]).take 25) := low7_take (low7_app (fun y hy => (hAl y hy).2) (low7_one (by decide))) 25
  obtain ⟨P, hS3⟩ := id T3
  have hrm := x_room (cs := cs) (d := d - 1) (top := top) (sl := sl) (by omega) hS3 b2 hwl (L8_low hO hrk hK hP hL)
  have p11 := p1.at
  have a22 := a2.at
  have b22 := b2.at
  have pA3 := hpA3.at
  have hS31 := hS3.1
  have go : ∀ res, am_to cd_t cs d 85 36 [some (.ref (b + 11)), some (.ref pA), some (.int (ii left)), none, none, none, none, none] [.int (b2i (roomB L ((A.1 ++ [46]).take 25)))] s3 top sl res → am_to cd_t cs d 85 0 (am_ent 8 [.ref (b + 11), .ref pA, .int (ii left)]) [] σ top sl res := by
    intro res hh
    refine x_n cd_i85_0 rfl rfl ?_
    refine x_getf cd_i85_1 h11 rfl rfl ?_
    refine x_ic cd_i85_4 (z := ii 0) rfl ?_
    refine x_putf cd_i85_5 (fs' := [.ref (b + 14 + 1), .int (ii 0), .int (ii ty), .int (ii c)]) hp1 rfl rfl rfl ?_
    refine hs1 ▸ ?_
    refine x_n cd_i85_8 rfl rfl ?_
    refine x_getf cd_i85_9 g1 rfl rfl ?_
    refine x_n cd_i85_12 rfl rfl ?_
    refine x_callv (as' := [.ref pA]) (r := none) cd_i85_13 p11 (by omega) rfl rfl rfl rfl rfl rfl a1 ?_
    refine x_n cd_i85_16 rfl rfl ?_
    refine x_getf cd_i85_17 g2 rfl rfl ?_
    refine x_bi cd_i85_20 (z := ii 46) (by decide) ?_
    refine x_callv (as' := [.int (ii 46)]) (r := none) cd_i85_22 a22 (by omega) rfl rfl rfl rfl rfl rfl b1 ?_
    refine x_n cd_i85_25 rfl rfl ?_
    refine x_getf cd_i85_26 g3 rfl rfl ?_
    refine x_n cd_i85_29 rfl rfl ?_
    refine x_getf cd_i85_30 g3 rfl rfl ?_
    exact x_callv (as' := [.ref (b + 14)]) cd_i85_33 hS31 (by omega) rfl rfl rfl rfl rfl rfl hrm hh
  cases hr : roomB L ((A.1 ++ [46]).take 25) with
  | false =>
    rw [hr] at go
    refine ⟨s3, L, _, ty, go _ ?_, FR.draft f3, T3, b2, ImT_prune hL (fun s hs => ?_)⟩
    · refine x_if_f cd_i85_36 (fun z => absurd (show b2i false = 0 from rfl) z) ?_
      exact x_end cd_i85_39 rfl rfl rfl
    · have wf := hs.1.wf hO hrk hK
      have hm2 := (wf.2.2.1 A hs.2).2
      have e : txT dec s = (A.1 ++ [46]) ++ ((memQ dec s.1).2.2.2.1 ++ tailT (memQ dec s.1) s.2.2) := by
        unfold txT preT
        rw [if_neg hm2, hs.2, List.append_assoc, List.append_assoc]
        rfl
      have hne := wf.1.2.2.2.1 hm2
      refine room_none hL.1 hL.2.1 hr ⟨(A.1 ++ [46]).drop 25 ++ ((memQ dec s.1).2.2.2.1 ++ tailT (memQ dec s.1) s.2.2), ?_⟩ (Or.inl (fun z => ?_))
      · rw [← List.append_assoc, List.take_append_drop]
        exact e
      · have l1 := congrArg List.length (e.symm.trans z)
        rw [List.length_append, List.length_take, List.length_append (as := (memQ dec s.1).2.2.2.1)] at l1
        omega
  | true =>
    rw [hr] at go
    have go2 : ∀ res, am_to cd_t cs d 85 54 [some (.ref (b + 11)), some (.ref pA), some (.int (ii left)), some (.int (ii ((A.1 ++ [46]).take 25).length)), none, none, none, none] [.int (ii A.2 - ii 3)] s3 top sl res → am_to cd_t cs d 85 0 (am_ent 8 [.ref (b + 11), .ref pA, .int (ii left)]) [] σ top sl res := by
      intro res hh
      refine go res ?_
      refine x_if_t cd_i85_36 (fun z => absurd (show (1 : Int32) = 0 from z) (by decide)) ?_
      refine x_n cd_i85_40 rfl rfl ?_
      refine x_getf cd_i85_41 g3 rfl rfl ?_
      refine x_getf cd_i85_44 b22 rfl rfl ?_
      refine x_n cd_i85_47 rfl rfl ?_
      dsimp only [List.set]
      refine x_n cd_i85_48 rfl rfl ?_
      refine x_getf cd_i85_49 pA3 rfl rfl ?_
      refine x_ic cd_i85_52 (z := ii 3) rfl ?_
      refine x_isub cd_i85_53 rfl ?_
      exact hh
    have hdl := x_declared (cs := cs) (d := d - 1) (top := top) (sl := sl) (c := ii A.2 - ii 3) E3.1
    have go3 : ∀ res, am_to cd_t cs d 85 67 [some (.ref (b + 11)), some (.ref pA), some (.int (ii left)), some (.int (ii ((A.1 ++ [46]).take 25).length)), some (.int (ii A.2 - ii 3)), some (va_rf ((declM dec (ii A.2 - ii 3)).map fun _ => da (ii A.2 - ii 3).toNatClampNeg)), none, none] [] s3 top sl res → am_to cd_t cs d 85 0 (am_ent 8 [.ref (b + 11), .ref pA, .int (ii left)]) [] σ top sl res := by
      intro res hh
      refine go2 res ?_
      refine x_n cd_i85_54 rfl rfl ?_
      dsimp only [List.set]
      refine x_n cd_i85_56 rfl rfl ?_
      refine x_getf cd_i85_57 g3 rfl rfl ?_
      refine x_n cd_i85_60 rfl rfl ?_
      refine x_callv (as' := [.int (ii A.2 - ii 3)]) cd_i85_62 E3.1.1 (by omega) rfl rfl rfl rfl rfl rfl hdl ?_
      cases hdm : declM dec (ii A.2 - ii 3) with
      | none =>
        rw [hdm] at hh
        refine x_n cd_i85_65 rfl rfl ?_
        exact hh
      | some D =>
        rw [hdm] at hh
        refine x_n cd_i85_65 rfl rfl ?_
        exact hh
    have stop : declM dec (ii A.2 - ii 3) = none → (∀ s, Val dec pl K c s → ¬ s.2.1 = some A) → ∃ (σ' : am_H) (L' : List Ent) (w' : List Nat) (ty' : Nat), am_to cd_t cs d 85 0 (am_ent 8 [.ref (b + 11), .ref pA, .int (ii left)]) [] σ top sl (.inl none, σ', top, sl) ∧ FR b c σ σ' ∧ tgt σ' b c L' ∧ phr σ' (b + 14) w' ty' c ∧ L8 (ImT dec (fun s => P0 s ∨ (Val dec pl K c s ∧ s.2.1 = some A))) L' := by
      intro hn hv
      rw [hn] at go3
      refine ⟨s3, L, _, ty, go3 _ ?_, FR.draft f3, T3, b2, ImT_iff hL (fun s => ⟨Or.inl, ?_⟩)⟩
      · refine x_n cd_i85_67 rfl rfl ?_
        show am_to cd_t _ _ 85 69 _ _ _ _ _ _
        refine x_null_t cd_i85_69 ?_
        exact x_end cd_i85_152 rfl rfl rfl
      · rintro (h | ⟨h1, h2⟩)
        · exact h
        · exact absurd h2 (hv s h1)
    by_cases h3 : 3 ≤ A.2
    · have e : ii A.2 - ii 3 = ii (A.2 - 3) := ii_sub h3
      have edm : declM dec (ii A.2 - ii 3) = dec (A.2 - 3) := by
        unfold declM
        rw [e, ii_toInt (by omega), if_pos (by omega), ii_clamp (by omega)]
      cases hD : dec (A.2 - 3) with
      | none =>
        refine stop (by rw [edm, hD]) (fun s hv hs => ?_)
        have hr := hv.rv
        rw [hs] at hr
        have hin := (snB_in hr.2.2).1
        rw [chain_succ] at hin
        unfold abv at hin
        rw [hD] at hin
        have hin : s.1.1 ∈ [A.2 - 3] := hin
        obtain ⟨D, hD', -⟩ := hv.1
        rw [List.mem_singleton.mp hin, hD] at hD'
        cases hD'
      | some D =>
        rw [edm, hD, e, ii_clamp (by omega)] at go3
        obtain ⟨s4, L4, w4, t4, c1, c2, c3, c4, c5⟩ := x_sel_chain (cs := cs) (top := top) (sl := sl) (pA := pA) hd hcs hO hrk hK hc4 hA h3 hcst hP hP0 11 (A.2 - 3) D (fun _ => False) s3 L [] ty none none (deep_11 hrk (by omega)) hD (fun _ h => h.elim) E3 T3 (by rw [List.append_nil]; exact b2) (ImT_iff hL (fun s => ⟨Or.inl, fun h => by
          rcases h with h | ⟨-, -, h⟩
          · exact h
          · exact h.elim⟩))
        refine ⟨s4, L4, _, t4, go3 _ c1, (FR.draft f3).trans c2, c3, c4, ImT_iff c5 (fun s => ?_)⟩
        unfold PSS
        constructor
        · rintro (h | ⟨h1, h2, -⟩)
          · exact Or.inl h
          · exact Or.inr ⟨h1, h2⟩
        · rintro (h | ⟨h1, h2⟩)
          · exact Or.inl h
          · have hr := h1.rv
            rw [h2] at hr
            exact Or.inr ⟨h1, h2, Or.inr (snB_in hr.2.2).1⟩
    · refine stop ?_ (fun s hv hs => ?_)
      · unfold declM
        rw [if_neg]
        have : ∀ n, n < 3 → ¬ (0 ≤ (ii n - ii 3).toInt ∧ (ii n - ii 3).toInt < 10) := by decide
        exact this A.2 (by omega)
      · have hr := hv.rv
        rw [hs] at hr
        exact h3 hr.2.1
end KSE
