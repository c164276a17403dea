theorem M_cat.eq {a a' : Nat → Nat → Int32} {dec : Nat → Option Dec} (h : M_cat a dec) (he : ∀ k, k ≤ 11 → a' k = a k) : M_cat a' dec := by
  intro c hc
  obtain ⟨h1, h2⟩ := h c hc
  rw [he 2 (by decide), he 3 (by decide), he 4 (by decide)]
  refine ⟨h1, fun D hD => ?_⟩
  obtain ⟨q1, q2, q3, q4, q5⟩ := h2 D hD
  refine ⟨q1, q2, q3, q4, fun k hk => ?_⟩
  have := q5 k hk
  unfold M_mem at this ⊢
  rw [he 5 (by decide), he 6 (by decide), he 7 (by decide), he 8 (by decide), he 9 (by decide), he 10 (by decide), he 11 (by decide)]
  exact this
/-- what a reading of an expression looks at -/
def MEnv (dec : Nat → Option Dec) (pl : Int32) (vs : List (List Nat × Nat)) (txt : List Nat) (i : Nat → Int32) (a : Nat → Nat → Int32) : Prop := M_buf i a txt ∧ M_cat a dec ∧ M_und a dec ∧ i 18 = pl ∧ M_sco i a vs
theorem MEnv.ck {dec : Nat → Option Dec} {pl : Int32} {vs : List (List Nat × Nat)} {txt : List Nat} {i i' : Nat → Int32} {a a' : Nat → Nat → Int32} {dep : Nat} (h : MEnv dec pl vs txt i a) (hc : CK dep i i' a a') : MEnv dec pl vs txt i' a' := by
  obtain ⟨h1, h2, h3, h4, h5⟩ := h
  refine ⟨⟨(hc.1 2 (by decide)).trans h1.1, h1.2.1, fun j hj => by rw [hc.2.1 1 (by decide) (by decide)]; exact h1.2.2 j hj⟩, h2.eq (fun k hk => hc.2.1 k (by omega) (by omega)), fun c hc' hn => by rw [hc.2.1 4 (by decide) (by decide)]; exact h3 c hc' hn, (hc.1 18 (by decide)).trans h4, ⟨(hc.1 15 (by decide)).trans h5.1, h5.2.1, h5.2.2.1, fun j hj => by rw [hc.2.1 12 (by decide) (by decide), hc.2.1 13 (by decide) (by decide)]; exact h5.2.2.2 j hj⟩⟩
section MO
variable {dec : Nat → Option Dec} {pl : Int32} {vs : List (List Nat × Nat)} {txt : List Nat}
theorem argsP_mono {E : Nat → ERes} (hE : ∀ p R, E p = some R → p ≤ R.2.1) : ∀ (ts : List Nat) (f : Bool) (q : Nat) (S : Nat × Nat), argsP dec txt E ts f q = some S → q ≤ S.1
  | [], f, q, S, h => by
    rw [argsP] at h
    split at h
    · rw [← Option.some.inj h]
      exact Nat.le_succ q
    · cases h
  | w :: ts, f, q, S, h => by
    rw [argsP] at h
    split at h
    · split at h
      · cases h
      · next R hR =>
        split at h
        · obtain ⟨S', hS', e⟩ := Option.map_eq_some_iff.mp h
          have h1 := hE _ _ hR
          have h2 := argsP_mono hE ts false R.2.1 S' hS'
          rw [← e]
          show q ≤ S'.1
          split at h1 <;> omega
        · cases h
    · cases h
theorem useP_mono {E : Nat → ERes} (hE : ∀ p R, E p = some R → p ≤ R.2.1) {o : Option (Nat × Nat)} {q : Nat} {R : Nat × Nat × Nat} (h : useP dec txt E o q = some R) : q ≤ R.2.1 := by
  unfold useP at h
  split at h
  · cases h
  · split at h
    · rw [← Option.some.inj h]
      exact Nat.le_refl _
    · split at h
      · obtain ⟨S, hS, e⟩ := Option.map_eq_some_iff.mp h
        have := argsP_mono hE _ _ _ S hS
        rw [← e]
        show q ≤ S.1
        omega
      · cases h
theorem selP_mono {E : Nat → ERes} (hE : ∀ p R, E p = some R → p ≤ R.2.1) {t q : Nat} {R : Nat × Nat × Nat} (h : selP dec pl txt E t q = some R) : q ≤ R.2.1 := by
  unfold selP at h
  split at h
  · cases h
  · have := useP_mono hE h
    omega
theorem headP_mono {E : Nat → ERes} (hE : ∀ p R, E p = some R → p ≤ R.2.1) {q : Nat} {R : Nat × Nat × Nat} (h : headP dec pl vs txt E q = some R) : q ≤ R.2.1 := by
  unfold headP at h
  split at h
  · split at h
    · cases h
    · have := useP_mono hE h
      omega
  · split at h
    · split at h
      · cases h
      · obtain ⟨t, ht, e⟩ := Option.map_eq_some_iff.mp h
        rw [← e]
        exact Nat.le_add_right _ _
    · split at h
      · split at h
        · cases h
        · have := useP_mono hE h
          omega
      · cases h
theorem selsP_mono {E : Nat → ERes} (hE : ∀ p R, E p = some R → p ≤ R.2.1) : ∀ (f t q k : Nat) (R : Nat × Nat × Nat), selsP dec pl txt E f t q k = some R → q ≤ R.2.1
  | 0, t, q, k, R, h => by
    rw [selsP] at h
    rw [← Option.some.inj h]
    exact Nat.le_refl _
  | f + 1, t, q, k, R, h => by
    rw [selsP] at h
    split at h
    · split at h
      · cases h
      · next S hS =>
        have h1 := selP_mono hE hS
        have h2 := selsP_mono hE f _ _ _ R h
        omega
    · rw [← Option.some.inj h]
      exact Nat.le_refl _
theorem exprP_mono : ∀ (n p : Nat) (R : Nat × Nat × Nat), exprP dec pl vs txt n p = some R → p ≤ R.2.1
  | 0, p, R, h => by cases h
  | n + 1, p, R, h => by
    rw [exprP] at h
    split at h
    · cases h
    · next S hS =>
      have h1 := headP_mono (exprP_mono n) hS
      have h2 := selsP_mono (exprP_mono n) 120 _ _ _ R h
      omega
end MO
section RFU
variable {cs : Nat → Value} {d m top sl : Nat} {σ : am_H} {i : Nat → Int32} {a : Nat → Nat → Int32} {dec : Nat → Option Dec} {pl : Int32} {rk : Nat → Nat} {vs : List (List Nat × Nat)} {txt : List Nat} {p dep k0 : Nat}
theorem m_furtherSel {t : Nat} (hd : 5 < d) (hT : ∀ c ∈ txt, cok c) (hM : mo σ m i a) (hV : MEnv dec pl vs txt i a) (hP : M_at i p) (hG : i 4 = b2i true) (hop : i 33 = ii dep) (hdep : dep ≤ 6) (hk0 : i 36 = ii k0) (hO : catOk dec) (hr : ranked dec rk) (ht : t < 13) (h46 : txt.getD p 0 = 46) :
    ∃ (σ' : am_H) (i' : Nat → Int32) (a' : Nat → Nat → Int32) (z : Int32), am_to cd_t cs d 151 0 (am_ent 4 [.ref m, .int (ii t)]) [] σ top sl (.inl (some (.int z)), σ', top, sl) ∧ mo σ' m i' a' ∧ CK dep i i' a a' ∧ uOut dec txt dep k0 (fun E => selP dec pl txt E t (p + 1)) z i' a' ∧ ∀ x, x < m ∨ m + 25 ≤ x → σ' x = σ x := by
  obtain ⟨hB, hC, hU, hpl, hS⟩ := hV
  have hlen := hB.2.1
  have hlt := getD_lt h46 (by decide)
  obtain ⟨s1, a1, a2, a3⟩ := m_pass (cs := cs) (d := d - 1) (top := top) (sl := sl) (c := 46) (by omega) hM hB hP hT (by omega) (by decide)
  rw [if_pos h46] at a2
  rw [beq_iff_eq.mpr h46] at a1
  have ck1 : CK dep i (upd i 3 (ii (p + 1))) a a := CK.num i a (by decide)
  obtain ⟨s4, i4, d1, d2, d3, d4, d5, d6⟩ := m_readName (cs := cs) (d := d - 1) (top := top) (sl := sl) (p := p + 1) (g := true) (by omega) hT a2 (show M_buf (upd i 3 (ii (p + 1))) a txt from hB) rfl hG (by omega)
  rw [Bool.true_and] at d4
  have ck4 : CK dep i i4 a a := ck1.trans (CK.same d5) (Nat.le_refl _)
  have f4 : ∀ y, y < m ∨ m + 25 ≤ y → s4 y = σ y := fun y hy => (d6 y hy).trans (a3 y hy)
  have hwl := wl_len txt (p + 1) (by omega)
  have B4 : M_buf i4 a txt := ⟨(ck4.1 2 (by decide)).trans hB.1, hB.2⟩
  have go3 : ∀ res, am_to cd_t cs d 151 18 [some (.ref m), some (.int (ii t)), some (.int (ii (wv27 txt (p + 1)))), none] [.int (b2i (tkN txt (p + 1)).isSome)] s4 top sl res → am_to cd_t cs d 151 0 (am_ent 4 [.ref m, .int (ii t)]) [] σ top sl res := by
    intro res hh
    refine x_n cd_i151_0 rfl rfl ?_
    refine x_bi cd_i151_1 (z := ii 46) (by decide) ?_
    show am_to cd_t _ _ 151 3 _ _ _ _ _ _
    refine x_callv (as' := [.int (ii 46)]) cd_i151_3 hM.1 (by omega) rfl rfl rfl rfl rfl rfl (a1) ?_
    refine x_if_f cd_i151_6 (fun z => absurd (show (1 : Int32) = 0 from z) (by decide)) ?_
    refine x_n cd_i151_9 rfl rfl ?_
    show am_to cd_t _ _ 151 10 _ _ _ _ _ _
    refine x_callv (as' := []) cd_i151_10 a2.1 (by omega) rfl rfl rfl rfl rfl rfl (d1) ?_
    refine x_n cd_i151_13 rfl rfl ?_
    try dsimp only [List.set]
    refine x_n cd_i151_14 rfl rfl ?_
    show am_to cd_t _ _ 151 15 _ _ _ _ _ _
    refine x_getf cd_i151_15 d2.1 (congrArg (fun z => some (Value.int z)) (d4)) rfl ?_
    exact hh
  cases hN : tkN txt (p + 1) with
  | none =>
    rw [hN] at go3 d4
    refine ⟨s4, i4, a, -1, go3 _ (x_if_t cd_i151_18 rfl ?_), d2, ck4, Or.inl ⟨fun E _ => ?_, d4⟩, f4⟩
    · refine x_ic cd_i151_49 (z := (-1)) rfl ?_
      show am_to cd_t _ _ 151 50 _ _ _ _ _ _
      exact x_end cd_i151_50 rfl rfl rfl
    · show selP dec pl txt E t (p + 1) = none
      unfold selP
      rw [hN]
  | some w =>
    obtain ⟨w0, w1, w2, w3⟩ := tkN_some hN
    have ew : wv27 txt (p + 1) = n27 w := by
      unfold wv27
      rw [← w0, if_pos w3]
    rw [hN] at go3 d4
    rw [ew] at go3
    have look2 := m_look (cs := cs) (d := d - 1) (top := top) (sl := sl) (k := 0) d2 B4 d3 hT (by omega) (by decide)
    rw [Nat.add_zero] at look2
    have hlq := getD_cok hT (p + 1 + (wl txt (p + 1)).length)
    obtain ⟨l1, s5, i5, a5, z, m1, m2, m3, m4, m5⟩ := m_name_use (cs := cs) (d := d) (top := top) (sl := sl) (t := .inl t) (w := w) (dep := dep) (k0 := k0) (by omega) hT d2 B4 d3 hwl d4 ((d5.1 33 (by decide)).trans hop) hdep ((d5.1 36 (by decide)).trans hk0) hC hO hr ((ck4.1 18 (by decide)).trans hpl) ⟨w1, w3⟩ ht
    refine ⟨s5, i5, a5, z, go3 _ (x_if_f cd_i151_18 (fun z => absurd (show (1 : Int32) = 0 from z) (by decide)) ?_), m2, ck4.trans m3 (Nat.le_refl _), m4.step (fun E => ?_), fun y hy => (m5 y hy).trans (f4 y hy)⟩
    · have fin : am_to cd_t cs d 151 40 [some (.ref m), some (.int (ii t)), some (.int (ii (n27 w))), none] [.int (ii (kA txt (p + 1 + (wl txt (p + 1)).length))), .int (ii (n27 w)), .int (ii t), .ref m, .ref m] s4 top sl (.inl (some (.int z)), s5, top, sl) := by
        refine x_callv (as' := [.int (ii t), .int (ii (n27 w)), .int (ii (kA txt (p + 1 + (wl txt (p + 1)).length)))]) cd_i151_40 d2.1 (by omega) rfl rfl rfl rfl rfl rfl (l1) ?_
        refine x_callv (as' := [.int (rowO (pickT dec pl (kA txt (p + 1 + (wl txt (p + 1)).length)) w (.inl t)))]) cd_i151_43 d2.1 (by omega) rfl rfl rfl rfl rfl rfl (m1) ?_
        refine x_n cd_i151_46 rfl rfl ?_
        show am_to cd_t _ _ 151 50 _ _ _ _ _ _
        exact x_end cd_i151_50 rfl rfl rfl
      refine x_n cd_i151_21 rfl rfl ?_
      refine x_n cd_i151_22 rfl rfl ?_
      refine x_n cd_i151_23 rfl rfl ?_
      refine x_n cd_i151_24 rfl rfl ?_
      refine x_n cd_i151_25 rfl rfl ?_
      refine x_ic cd_i151_26 (z := ii 0) rfl ?_
      show am_to cd_t _ _ 151 27 _ _ _ _ _ _
      refine x_callv (as' := [.int (ii 0)]) cd_i151_27 d2.1 (by omega) rfl rfl rfl rfl rfl rfl (look2) ?_
      refine x_bi cd_i151_30 (z := ii 40) (by decide) ?_
      show am_to cd_t _ _ 151 32 _ _ _ _ _ _
      unfold kA at fin
      by_cases h40 : txt.getD (p + 1 + (wl txt (p + 1)).length) 0 = 40
      · rw [if_pos h40] at fin
        refine x_icmp_f cd_i151_32 (fun y => y (by rw [h40])) ?_
        refine x_ic cd_i151_35 (z := ii 1) rfl ?_
        refine x_n cd_i151_36 rfl rfl ?_
        show am_to cd_t _ _ 151 40 _ _ _ _ _ _
        exact fin
      · rw [if_neg h40] at fin
        refine x_icmp_t cd_i151_32 (fun y => h40 ((ii_eq (by omega) (by decide)).mp y)) ?_
        refine x_ic cd_i151_39 (z := ii 0) rfl ?_
        show am_to cd_t _ _ 151 40 _ _ _ _ _ _
        exact fin
    · unfold selP
      rw [hN]
      rfl
/-- an argument that has been read -/
theorem m_furtherArg {t x j k : Nat} {D : Dec} (hd : 5 < d) (hT : ∀ c ∈ txt, cok c) (hM : mo σ m i a) (hV : MEnv dec pl vs txt i a) (hP : M_at i p) (hp : p ≤ txt.length) (hG : i 4 = b2i true) (hop : i 33 = ii (dep + 1)) (hdep : dep < 6) (hO : catOk dec) (hr : ranked dec rk) (ht : t < 13) (h46 : ¬ txt.getD p 0 = 46) (hD : dec x = some D) (hj : j < D.2.length) (h23 : a 23 dep = ii (6 * x + j)) (h24 : a 24 dep = ii k) (hk : k < (D.2.getD j default).2.2.2.2.1.length) :
    ∃ (σ' : am_H) (i' : Nat → Int32) (z : Int32) (c : Nat), c = (if k + 1 < (D.2.getD j default).2.2.2.2.1.length then 44 else 41) ∧ am_to cd_t cs d 151 0 (am_ent 4 [.ref m, .int (ii t)]) [] σ top sl (.inl (some (.int z)), σ', top, sl) ∧ mo σ' m i' (updA a 24 (upd (a 24) dep (ii (k + 1)))) ∧ (∀ q, q ∉ [3, 4, 33, 36] → i' q = i q) ∧ i' 36 = i 36 ∧ i' 4 = b2i (fitB dec t ((D.2.getD j default).2.2.2.2.1.getD k 0) && (txt.getD p 0 == c)) ∧ (txt.getD p 0 = c → M_at i' (p + 1)) ∧ (k + 1 < (D.2.getD j default).2.2.2.2.1.length → z = -1 ∧ i' 33 = ii (dep + 1)) ∧ (¬ k + 1 < (D.2.getD j default).2.2.2.2.1.length → z = ii (D.2.getD j default).2.2.2.2.2 ∧ i' 33 = ii dep) ∧ ∀ x, x < m ∨ m + 25 ≤ x → σ' x = σ x := by
  obtain ⟨hB, hC, hU, hpl, hS⟩ := hV
  have hlen := hB.2.1
  have hx := (hr x D hD).1
  obtain ⟨q1, q2, q3, q4, q5⟩ := (hC x hx).2 D hD
  have hok := (hO x D hD).2.1 _ (getD_mem hj)
  obtain ⟨h1, h2, h3, h4, h5, h6, h7⟩ := q5 j hj
  have hl2 := hok.2.2.2.2.1
  have hw13 := getD_lt13 hok.2.2.2.2.2.1 hk
  obtain ⟨s1, a1, a2, a3⟩ := m_pass (cs := cs) (d := d - 1) (top := top) (sl := sl) (c := 46) (by omega) hM hB hP hT (by omega) (by decide)
  rw [if_neg h46] at a2
  rw [beq_eq_false_iff_ne.mpr h46] at a1
  have hfit := m_fit (cs := cs) (d := d - 1) (top := top) (sl := sl) (t := t) (w := (D.2.getD j default).2.2.2.2.1.getD k 0) (by omega) a2 hC hr ht hw13
  obtain ⟨s2, b1, b2, b3⟩ := m_must (cs := cs) (d := d - 1) (top := top) (sl := sl) (s := fitB dec t ((D.2.getD j default).2.2.2.2.1.getD k 0)) (g := true) a2 hG
  rw [Bool.true_and] at b2
  have c2 := b2.sto 24 (by decide) (by decide) (upd (a 24) dep (ii (k + 1)))
  obtain ⟨s3, hs3⟩ : ∃ z, z = am_up s2 (m + 24) (.inl (mo_ty 24, mo_sz 24, .inl (upd (a 24) dep (ii (k + 1))))) := ⟨_, rfl⟩
  rw [← hs3] at c2
  have f3 : ∀ y, y < m ∨ m + 25 ≤ y → s3 y = σ y := fun y hy => by rw [hs3, am_up_ne _ _ (by omega), b3 y hy, a3 y hy]
  have B3 : M_buf (upd (upd i 3 (ii p)) 4 (b2i (fitB dec t ((D.2.getD j default).2.2.2.2.1.getD k 0)))) (updA a 24 (upd (a 24) dep (ii (k + 1)))) txt := ⟨hB.1, hB.2.1, fun j hj => by rw [updA_ne (by decide)]; exact hB.2.2 j hj⟩
  have hop1 : upd i 3 (ii p) 33 = ii (dep + 1) := hop
  have go : ∀ res, am_to cd_t cs d 151 118 [some (.ref m), some (.int (ii t)), some (.int (ii (6 * x + j))), some (.int (ii k))] [.int (ii (D.2.getD j default).2.2.2.2.1.length), .int (ii (k + 1))] s3 top sl res → am_to cd_t cs d 151 0 (am_ent 4 [.ref m, .int (ii t)]) [] σ top sl res := by
    intro res hh
    refine x_n cd_i151_0 rfl rfl ?_
    refine x_bi cd_i151_1 (z := ii 46) (by decide) ?_
    show am_to cd_t _ _ 151 3 _ _ _ _ _ _
    refine x_callv (as' := [.int (ii 46)]) cd_i151_3 hM.1 (by omega) rfl rfl rfl rfl rfl rfl (a1) ?_
    refine x_if_t cd_i151_6 rfl ?_
    refine x_n cd_i151_51 rfl rfl ?_
    refine x_getf cd_i151_52 a2.1 rfl rfl ?_
    refine x_n cd_i151_55 rfl rfl ?_
    show am_to cd_t _ _ 151 56 _ _ _ _ _ _
    refine x_getf cd_i151_56 a2.1 (congrArg (fun z => some (Value.int z)) (hop1)) rfl ?_
    refine x_ic cd_i151_59 (z := ii 1) rfl ?_
    refine x_isub cd_i151_60 (z := ii dep) (ii_sub (b := 1) (by omega)) ?_
    refine x_iald cd_i151_61 (a2.2 23 (by decide) (by decide)) (show _ < 130 by omega) (by decide) (h23) ?_
    refine x_n cd_i151_62 rfl rfl ?_
    try dsimp only [List.set]
    refine x_n cd_i151_63 rfl rfl ?_
    refine x_getf cd_i151_64 a2.1 rfl rfl ?_
    refine x_n cd_i151_67 rfl rfl ?_
    show am_to cd_t _ _ 151 68 _ _ _ _ _ _
    refine x_getf cd_i151_68 a2.1 (congrArg (fun z => some (Value.int z)) (hop1)) rfl ?_
    refine x_ic cd_i151_71 (z := ii 1) rfl ?_
    refine x_isub cd_i151_72 (z := ii dep) (ii_sub (b := 1) (by omega)) ?_
    refine x_iald cd_i151_73 (a2.2 24 (by decide) (by decide)) (show _ < 130 by omega) (by decide) (h24) ?_
    refine x_n cd_i151_74 rfl rfl ?_
    try dsimp only [List.set]
    refine x_n cd_i151_75 rfl rfl ?_
    refine x_n cd_i151_76 rfl rfl ?_
    refine x_n cd_i151_77 rfl rfl ?_
    refine x_n cd_i151_78 rfl rfl ?_
    refine x_getf cd_i151_79 a2.1 rfl rfl ?_
    refine x_ic cd_i151_82 (z := ii 2) rfl ?_
    refine x_n cd_i151_83 rfl rfl ?_
    refine x_imul cd_i151_84 (ii_mul _ _) ?_
    refine x_n cd_i151_85 rfl rfl ?_
    refine x_iadd cd_i151_86 (ii_add _ _) ?_
    show am_to cd_t _ _ 151 87 _ _ _ _ _ _
    refine x_iald cd_i151_87 (a2.2 11 (by decide) (by decide)) (show _ < 132 by omega) (by decide) (h7 k hk) ?_
    refine x_callv (as' := [.int (ii t), .int (ii ((D.2.getD j default).2.2.2.2.1.getD k 0))]) cd_i151_88 a2.1 (by omega) rfl rfl rfl rfl rfl rfl (hfit) ?_
    refine x_callv (as' := [.int (b2i (fitB dec t ((D.2.getD j default).2.2.2.2.1.getD k 0)))]) (r := none) cd_i151_91 a2.1 (by omega) rfl rfl rfl rfl rfl rfl (b1) ?_
    refine x_n cd_i151_94 rfl rfl ?_
    refine x_getf cd_i151_95 b2.1 rfl rfl ?_
    refine x_n cd_i151_98 rfl rfl ?_
    show am_to cd_t _ _ 151 99 _ _ _ _ _ _
    refine x_getf cd_i151_99 b2.1 (congrArg (fun z => some (Value.int z)) (hop1)) rfl ?_
    refine x_ic cd_i151_102 (z := ii 1) rfl ?_
    refine x_isub cd_i151_103 (z := ii dep) (ii_sub (b := 1) (by omega)) ?_
    refine x_n cd_i151_104 rfl rfl ?_
    show am_to cd_t _ _ 151 105 _ _ _ _ _ _
    refine x_iald cd_i151_105 (b2.2 24 (by decide) (by decide)) (show _ < 130 by omega) (by decide) (h24) ?_
    refine x_ic cd_i151_106 (z := ii 1) rfl ?_
    refine x_iadd cd_i151_107 (ii_add _ _) ?_
    show am_to cd_t _ _ 151 108 _ _ _ _ _ _
    refine x_iastore cd_i151_108 (b2.2 24 (by decide) (by decide)) (show _ < 130 by omega) (by decide) ?_
    refine hs3 ▸ ?_
    refine x_n cd_i151_109 rfl rfl ?_
    refine x_ic cd_i151_110 (z := ii 1) rfl ?_
    refine x_iadd cd_i151_111 (ii_add _ _) ?_
    refine x_n cd_i151_112 rfl rfl ?_
    refine x_getf cd_i151_113 c2.1 rfl rfl ?_
    refine x_n cd_i151_116 rfl rfl ?_
    show am_to cd_t _ _ 151 117 _ _ _ _ _ _
    refine x_iald cd_i151_117 (c2.2 10 (by decide) (by decide)) (show _ < 66 by omega) (by decide) (h6) ?_
    exact hh
  by_cases hmore : k + 1 < (D.2.getD j default).2.2.2.2.1.length
  · obtain ⟨s4, d1, d2, d3⟩ := m_expect (cs := cs) (d := d - 1) (top := top) (sl := sl) (c := 44) (g := fitB dec t ((D.2.getD j default).2.2.2.2.1.getD k 0)) (p := p) (by omega) c2 B3 rfl rfl hT (by omega) (by decide)
    refine ⟨s4, _, -1, 44, by rw [if_pos hmore], go _ ?_, d2, fun q hq => ?_, rfl, rfl, fun h => ?_, fun _ => ⟨rfl, hop⟩, fun h => absurd hmore h, fun y hy => (d3 y hy).trans (f3 y hy)⟩
    · refine x_icmp_f cd_i151_118 (fun z => by have := (ii_le (by omega) (by omega)).mp (show ii (D.2.getD j default).2.2.2.2.1.length ≤ ii (k + 1) from z); omega) ?_
      refine x_n cd_i151_121 rfl rfl ?_
      refine x_bi cd_i151_122 (z := ii 44) (by decide) ?_
      show am_to cd_t _ _ 151 124 _ _ _ _ _ _
      refine x_callv (as' := [.int (ii 44)]) (r := none) cd_i151_124 c2.1 (by omega) rfl rfl rfl rfl rfl rfl (d1) ?_
      refine x_ic cd_i151_127 (z := (-1)) rfl ?_
      show am_to cd_t _ _ 151 128 _ _ _ _ _ _
      exact x_end cd_i151_128 rfl rfl rfl
    · have y3 : q ≠ 3 := fun z => hq (by rw [z]; decide)
      have y4 : q ≠ 4 := fun z => hq (by rw [z]; decide)
      rw [upd_ne y4, upd_ne y3, upd_ne y4, upd_ne y3]
    · show ii (if txt.getD p 0 = 44 then p + 1 else p) = _
      rw [if_pos h]
  · obtain ⟨s4, d1, d2, d3⟩ := m_expect (cs := cs) (d := d - 1) (top := top) (sl := sl) (c := 41) (g := fitB dec t ((D.2.getD j default).2.2.2.2.1.getD k 0)) (p := p) (by omega) c2 B3 rfl rfl hT (by omega) (by decide)
    have e2 := d2.put (upd (upd (upd (upd (upd i 3 (ii p)) 4 (b2i (fitB dec t ((D.2.getD j default).2.2.2.2.1.getD k 0)))) 3 (ii (if txt.getD p 0 = 41 then p + 1 else p))) 4 (b2i (fitB dec t ((D.2.getD j default).2.2.2.2.1.getD k 0) && (txt.getD p 0 == 41)))) 33 (ii dep))
    refine ⟨_, _, ii (D.2.getD j default).2.2.2.2.2, 41, by rw [if_neg hmore], go _ ?_, e2, fun q hq => ?_, rfl, rfl, fun h => ?_, fun h => absurd h hmore, fun _ => ⟨rfl, rfl⟩, fun y hy => by rw [am_up_ne _ _ (by omega), d3 y hy, f3 y hy]⟩
    · refine x_icmp_t cd_i151_118 ((ii_le (by omega) (by omega)).mpr (by omega)) ?_
      refine x_n cd_i151_129 rfl rfl ?_
      refine x_bi cd_i151_130 (z := ii 41) (by decide) ?_
      show am_to cd_t _ _ 151 132 _ _ _ _ _ _
      refine x_callv (as' := [.int (ii 41)]) (r := none) cd_i151_132 c2.1 (by omega) rfl rfl rfl rfl rfl rfl (d1) ?_
      refine x_n cd_i151_135 rfl rfl ?_
      refine x_n cd_i151_136 rfl rfl ?_
      show am_to cd_t _ _ 151 137 _ _ _ _ _ _
      refine x_getf cd_i151_137 d2.1 (congrArg (fun z => some (Value.int z)) (hop)) rfl ?_
      refine x_ic cd_i151_140 (z := ii 1) rfl ?_
      refine x_isub cd_i151_141 (z := ii dep) (ii_sub (b := 1) (by omega)) ?_
      refine x_putf cd_i151_142 (fs' := mo_f m (upd (upd (upd (upd (upd i 3 (ii p)) 4 (b2i (fitB dec t ((D.2.getD j default).2.2.2.2.1.getD k 0)))) 3 (ii (if txt.getD p 0 = 41 then p + 1 else p))) 4 (b2i (fitB dec t ((D.2.getD j default).2.2.2.2.1.getD k 0) && (txt.getD p 0 == 41)))) 33 (ii dep))) d2.1 rfl rfl rfl ?_
      refine x_n cd_i151_145 rfl rfl ?_
      refine x_getf cd_i151_146 e2.1 rfl rfl ?_
      refine x_n cd_i151_149 rfl rfl ?_
      show am_to cd_t _ _ 151 150 _ _ _ _ _ _
      refine x_iald cd_i151_150 (e2.2 9 (by decide) (by decide)) (show _ < 66 by omega) (by decide) (h5) ?_
      exact x_end cd_i151_151 rfl rfl rfl
    · have y3 : q ≠ 3 := fun z => hq (by rw [z]; decide)
      have y4 : q ≠ 4 := fun z => hq (by rw [z]; decide)
      have y33 : q ≠ 33 := fun z => hq (by rw [z]; decide)
      rw [upd_ne y33, upd_ne y4, upd_ne y3, upd_ne y4, upd_ne y3]
    · show ii (if txt.getD p 0 = 41 then p + 1 else p) = _
      rw [if_pos h]
end RFU
