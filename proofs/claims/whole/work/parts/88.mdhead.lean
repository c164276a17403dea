section RF
variable {cs : Nat → Value} {d m top sl : Nat} {txt : List Nat} {dec : Nat → Option Dec}
/-- the beginning of a declaration, up to its brace -/
theorem m_decl_head {σ : am_H} {i : Nat → Int32} {a : Nat → Nat → Int32} (hd : 5 < d) (hT : ∀ c ∈ txt, cok c) (hM : mo σ m i a) (hB : M_buf i a txt) (hP : M_at i 0) (hG : i 4 = b2i true) (hC : M_cat a dec) :
    ∃ (σ' : am_H) (i' : Nat → Int32) (p' : Nat) (z : Int32), mo σ' m i' a ∧ M_at i' p' ∧ p' < 900 ∧ i' 4 = b2i (pHd dec txt).isSome ∧ (∀ H, pHd dec txt = some H → z = ii H.1 ∧ i' 37 = oi H.2.1 ∧ p' = H.2.2 ∧ H.1 < 10 ∧ p' ≤ txt.length ∧ ∀ p, H.2.1 = some p → ∃ D, dec p = some D) ∧ i' 38 = ii 0 ∧ (∀ q, q ∉ [3, 4, 37, 38] → i' q = i q) ∧ (∀ x, x < m ∨ m + 25 ≤ x → σ' x = σ x) ∧
      ∀ res, am_to cd_t cs d 103 73 [some (.ref m), some (.int z), none, none] [] σ' top sl res → am_to cd_t cs d 103 0 (am_ent 4 [.ref m]) [] σ top sl res := by
  have hlen := hB.2.1
  obtain ⟨s1, i1, a1, a2, a3, a4, a5, a6⟩ := m_readClass (cs := cs) (d := d - 1) (top := top) (sl := sl) (g := true) (p := 0) (by omega) hT hM hB hP hG (by omega)
  rw [if_pos rfl] at a1
  rw [Bool.true_and] at a4
  have h2 := a2.put (upd i1 37 (-1))
  obtain ⟨s2, hs2⟩ : ∃ z, z = am_up s1 m (.inr (.inl (11, mo_f m (upd i1 37 (-1))))) := ⟨_, rfl⟩
  rw [← hs2] at h2
  have f2 : ∀ x, x < m ∨ m + 25 ≤ x → s2 x = σ x := fun x hx => by rw [hs2, am_up_ne _ _ (by omega), a6 x hx]
  have i2 : ∀ q, q ∉ [3, 4, 37] → upd i1 37 (-1) q = i q := fun q hq => by
    rw [upd_ne (fun z => hq (by rw [z]; decide))]
    exact a5.1 q (fun z => hq (by simp at z ⊢; omega))
  have B2 : M_buf (upd i1 37 (-1)) a txt := ⟨(i2 2 (by decide)).trans hB.1, hB.2⟩
  have go1 : ∀ res, am_to cd_t cs d 103 14 [some (.ref m), some (.int (ii ((tkC txt 0).1.getD 0))), none, none] [.int (b2i (tkC txt 0).1.isSome)] s2 top sl res → am_to cd_t cs d 103 0 (am_ent 4 [.ref m]) [] σ top sl res := by
    intro res hh
    refine x_n cd_i103_0 rfl rfl ?_
    show am_to cd_t _ _ 103 1 _ _ _ _ _ _
    refine x_callv (as' := []) cd_i103_1 hM.1 (by omega) rfl rfl rfl rfl rfl rfl (a1) ?_
    refine x_n cd_i103_4 rfl rfl ?_
    try dsimp only [List.set]
    refine x_n cd_i103_5 rfl rfl ?_
    refine x_ic cd_i103_6 (z := (-1)) rfl ?_
    show am_to cd_t _ _ 103 7 _ _ _ _ _ _
    refine x_putf cd_i103_7 (fs' := mo_f m (upd i1 37 (-1))) a2.1 rfl rfl rfl ?_
    refine hs2 ▸ ?_
    refine x_n cd_i103_10 rfl rfl ?_
    show am_to cd_t _ _ 103 11 _ _ _ _ _ _
    refine x_getf cd_i103_11 h2.1 (congrArg (fun z => some (Value.int z)) (a4)) rfl ?_
    exact hh
  have tail : ∀ (s : am_H) (j : Nat → Int32) (q : Nat) (g : Bool) (z : Int32), mo s m j a → M_at j q → q < 800 → j 4 = b2i g → (∀ k, k ∉ [3, 4, 37, 38] → j k = i k) → (∀ x, x < m ∨ m + 25 ≤ x → s x = σ x) → (∀ res, am_to cd_t cs d 103 62 [some (.ref m), some (.int z), none, none] [] s top sl res → am_to cd_t cs d 103 0 (am_ent 4 [.ref m]) [] σ top sl res) →
      ∃ (σ' : am_H) (i' : Nat → Int32) (p' : Nat), mo σ' m i' a ∧ M_at i' p' ∧ p' < 900 ∧ i' 4 = b2i (g && (txt.getD q 0 == 123)) ∧ i' 37 = j 37 ∧ (txt.getD q 0 = 123 → p' = q + 1) ∧ i' 38 = ii 0 ∧ (∀ k, k ∉ [3, 4, 37, 38] → i' k = i k) ∧ (∀ x, x < m ∨ m + 25 ≤ x → σ' x = σ x) ∧ ∀ res, am_to cd_t cs d 103 73 [some (.ref m), some (.int z), none, none] [] σ' top sl res → am_to cd_t cs d 103 0 (am_ent 4 [.ref m]) [] σ top sl res := by
    intro s j q g z t1 t2 t3 t4 t5 t6 t7
    have u1 := t1.put (upd j 38 (ii 0))
    obtain ⟨s', hs'⟩ : ∃ z, z = am_up s m (.inr (.inl (11, mo_f m (upd j 38 (ii 0))))) := ⟨_, rfl⟩
    rw [← hs'] at u1
    have B' : M_buf (upd j 38 (ii 0)) a txt := ⟨(t5 2 (by decide)).trans hB.1, hB.2⟩
    obtain ⟨s3, b1, b2, b3⟩ := m_expect (cs := cs) (d := d - 1) (top := top) (sl := sl) (c := 123) (g := g) (p := q) (by omega) u1 B' t2 t4 hT (by omega) (by decide)
    refine ⟨s3, _, if txt.getD q 0 = 123 then q + 1 else q, b2, rfl, by split <;> omega, rfl, rfl, fun h => if_pos h, rfl, fun k hk => ?_, fun x hx => by rw [b3 x hx, hs', am_up_ne _ _ (by omega), t6 x hx], fun res hh => t7 res ?_⟩
    · have h3 : k ≠ 3 := fun z => hk (by rw [z]; decide)
      have h4 : k ≠ 4 := fun z => hk (by rw [z]; decide)
      have h38 : k ≠ 38 := fun z => hk (by rw [z]; decide)
      rw [upd_ne h4, upd_ne h3, upd_ne h38]
      exact t5 k hk
    · refine x_n cd_i103_62 rfl rfl ?_
      refine x_ic cd_i103_63 (z := ii 0) rfl ?_
      show am_to cd_t _ _ 103 64 _ _ _ _ _ _
      refine x_putf cd_i103_64 (fs' := mo_f m (upd j 38 (ii 0))) t1.1 rfl rfl rfl ?_
      refine hs' ▸ ?_
      refine x_n cd_i103_67 rfl rfl ?_
      refine x_bi cd_i103_68 (z := ii 123) (by decide) ?_
      show am_to cd_t _ _ 103 70 _ _ _ _ _ _
      refine x_callv (as' := [.int (ii 123)]) (r := none) cd_i103_70 u1.1 (by omega) rfl rfl rfl rfl rfl rfl (b1) ?_
      exact hh
  have sub3 : ∀ k, k ∉ [3, 4, 37, 38] → k ∉ [3, 4, 37] := fun k hk z => hk (by simp at z ⊢; omega)
  unfold pHd
  cases hc : (tkC txt 0).1 with
  | none =>
    rw [hc] at go1 a4
    obtain ⟨s3, i3, p3, k1, k2, k3, k4, k5, k6, k7, k8, k9, k10⟩ := tail s2 _ 1 false (ii 0) h2 a3 (by decide) a4 (fun k hk => i2 k (sub3 k hk)) f2 (fun res hh => go1 res (x_if_t cd_i103_14 rfl hh))
    exact ⟨s3, i3, p3, ii 0, k1, k2, k3, k4, (fun H hH => by cases hH), k7, k8, k9, k10⟩
  | some c =>
    obtain ⟨e1, e2, e3⟩ := tkC_some hc
    rw [hc] at go1 a4
    have go1 : ∀ res, am_to cd_t cs d 103 14 [some (.ref m), some (.int (ii c)), none, none] [.int (b2i true)] s2 top sl res → am_to cd_t cs d 103 0 (am_ent 4 [.ref m]) [] σ top sl res := go1
    obtain ⟨s3, b1, b2, b3⟩ := m_pass (cs := cs) (d := d - 1) (top := top) (sl := sl) (c := 58) (p := 1) (by omega) h2 B2 a3 hT (by omega) (by decide)
    have i3 : ∀ k, k ∉ [3, 4, 37, 38] → upd (upd i1 37 (-1)) 3 (ii (if txt.getD 1 0 = 58 then 1 + 1 else 1)) k = i k := fun k hk => by
      rw [upd_ne (fun z => hk (by rw [z]; decide))]
      exact i2 k (sub3 k hk)
    have f3 : ∀ x, x < m ∨ m + 25 ≤ x → s3 x = σ x := fun x hx => (b3 x hx).trans (f2 x hx)
    have go2 : ∀ res, am_to cd_t cs d 103 23 [some (.ref m), some (.int (ii c)), none, none] [.int (b2i (txt.getD 1 0 == 58))] s3 top sl res → am_to cd_t cs d 103 0 (am_ent 4 [.ref m]) [] σ top sl res := by
      intro res hh
      refine go1 res (x_if_f cd_i103_14 (fun z => absurd (show (1 : Int32) = 0 from z) (by decide)) ?_)
      refine x_n cd_i103_17 rfl rfl ?_
      refine x_bi cd_i103_18 (z := ii 58) (by decide) ?_
      show am_to cd_t _ _ 103 20 _ _ _ _ _ _
      refine x_callv (as' := [.int (ii 58)]) cd_i103_20 h2.1 (by omega) rfl rfl rfl rfl rfl rfl (b1) ?_
      exact hh
    dsimp only
    by_cases h58 : txt.getD 1 0 = 58
    · have hlt := getD_lt h58 (by decide)
      rw [if_pos h58] at b2 i3 ⊢
      rw [beq_iff_eq.mpr h58] at go2
      have B3 : M_buf (upd (upd i1 37 (-1)) 3 (ii (1 + 1))) a txt := ⟨(i3 2 (by decide)).trans hB.1, hB.2⟩
      obtain ⟨s4, i4, c1, c2, c3, c4, c5, c6⟩ := m_readClass (cs := cs) (d := d - 1) (top := top) (sl := sl) (g := true) (p := 2) (by omega) hT b2 B3 rfl a4 (by omega)
      rw [if_pos rfl] at c1
      rw [Bool.true_and] at c4
      have h5 := c2.put (upd i4 37 (ii ((tkC txt 2).1.getD 0)))
      obtain ⟨s5, hs5⟩ : ∃ z, z = am_up s4 m (.inr (.inl (11, mo_f m (upd i4 37 (ii ((tkC txt 2).1.getD 0)))))) := ⟨_, rfl⟩
      rw [← hs5] at h5
      have f5 : ∀ x, x < m ∨ m + 25 ≤ x → s5 x = σ x := fun x hx => by rw [hs5, am_up_ne _ _ (by omega), c6 x hx, f3 x hx]
      have i5 : ∀ k, k ∉ [3, 4, 37, 38] → upd i4 37 (ii ((tkC txt 2).1.getD 0)) k = i k := fun k hk => by
        rw [upd_ne (fun z => hk (by rw [z]; decide)), c5.1 k (fun z => hk (by simp at z ⊢; omega))]
        exact i3 k hk
      have go3 : ∀ res, am_to cd_t cs d 103 39 [some (.ref m), some (.int (ii c)), none, none] [.int (b2i (tkC txt 2).1.isSome), .ref m] s5 top sl res → am_to cd_t cs d 103 0 (am_ent 4 [.ref m]) [] σ top sl res := by
        intro res hh
        refine go2 res (x_if_f cd_i103_23 (fun z => absurd (show (1 : Int32) = 0 from z) (by decide)) ?_)
        refine x_n cd_i103_26 rfl rfl ?_
        refine x_n cd_i103_27 rfl rfl ?_
        show am_to cd_t _ _ 103 28 _ _ _ _ _ _
        refine x_callv (as' := []) cd_i103_28 b2.1 (by omega) rfl rfl rfl rfl rfl rfl (c1) ?_
        refine x_putf cd_i103_31 (fs' := mo_f m (upd i4 37 (ii ((tkC txt 2).1.getD 0)))) c2.1 rfl rfl rfl ?_
        refine hs5 ▸ ?_
        refine x_n cd_i103_34 rfl rfl ?_
        refine x_n cd_i103_35 rfl rfl ?_
        show am_to cd_t _ _ 103 36 _ _ _ _ _ _
        refine x_getf cd_i103_36 h5.1 (congrArg (fun z => some (Value.int z)) (c4)) rfl ?_
        exact hh
      obtain ⟨g, hg, hgo⟩ : ∃ g : Bool, (g = true ↔ ∃ q, (tkC txt 2).1 = some q ∧ ∃ D, dec q = some D) ∧ ∀ res, am_to cd_t cs d 103 59 [some (.ref m), some (.int (ii c)), none, none] [.int (b2i g), .ref m] s5 top sl res → am_to cd_t cs d 103 0 (am_ent 4 [.ref m]) [] σ top sl res := by
        cases hq : (tkC txt 2).1 with
        | none =>
          rw [hq] at go3
          refine ⟨false, ⟨(fun h => by cases h), fun ⟨q, h, _⟩ => by cases h⟩, fun res hh => go3 res (x_if_t cd_i103_39 rfl ?_)⟩
          refine x_ic cd_i103_58 (z := ii 0) rfl ?_
          show am_to cd_t _ _ 103 59 _ _ _ _ _ _
          exact hh
        | some q =>
          obtain ⟨u1, u2, u3⟩ := tkC_some hq
          rw [hq] at go3 h5
          have go4 : ∀ w : Int32, a 2 q = w → ∀ res, am_to cd_t cs d 103 51 [some (.ref m), some (.int (ii c)), none, none] [.int w, .ref m] s5 top sl res → am_to cd_t cs d 103 0 (am_ent 4 [.ref m]) [] σ top sl res := by
            intro w hw res hh
            refine go3 res (x_if_f cd_i103_39 (fun z => absurd (show (1 : Int32) = 0 from z) (by decide)) ?_)
            refine x_n cd_i103_42 rfl rfl ?_
            refine x_getf cd_i103_43 h5.1 rfl rfl ?_
            refine x_n cd_i103_46 rfl rfl ?_
            show am_to cd_t _ _ 103 47 _ _ _ _ _ _
            refine x_getf (w := .int (ii q)) cd_i103_47 h5.1 rfl rfl ?_
            refine x_bald cd_i103_50 (h5.2 2 (by decide) (by decide)) (show _ < 10 by omega) (by decide) (hw) ?_
            exact hh
          cases hD : dec q with
          | none =>
            refine ⟨false, ⟨(fun h => by cases h), fun ⟨q', h, D, h2⟩ => by rw [← Option.some.inj h, hD] at h2; cases h2⟩, fun res hh => go4 _ ((hC q u2).1 hD) res (x_if_t cd_i103_51 rfl ?_)⟩
            refine x_ic cd_i103_58 (z := ii 0) rfl ?_
            show am_to cd_t _ _ 103 59 _ _ _ _ _ _
            exact hh
          | some D =>
            refine ⟨true, ⟨fun _ => ⟨q, rfl, D, hD⟩, fun _ => rfl⟩, fun res hh => go4 _ ((hC q u2).2 D hD).1 res (x_if_f cd_i103_51 (fun z => absurd (show (1 : Int32) = 0 from z) (by decide)) ?_)⟩
            refine x_ic cd_i103_54 (z := ii 1) rfl ?_
            refine x_n cd_i103_55 rfl rfl ?_
            show am_to cd_t _ _ 103 59 _ _ _ _ _ _
            exact hh
      obtain ⟨s6, d1, d2, d3⟩ := m_must (cs := cs) (d := d - 1) (top := top) (sl := sl) (s := g) (g := (tkC txt 2).1.isSome) h5 c4
      obtain ⟨s7, i7, p7, k1, k2, k3, k4, k5, k6, k7, k8, k9, k10⟩ := tail s6 _ 3 ((tkC txt 2).1.isSome && g) (ii c) d2 c3 (by decide) rfl (fun k hk => (upd_ne (fun z => hk (by rw [z]; decide))).trans (i5 k hk)) (fun x hx => (d3 x hx).trans (f5 x hx)) (fun res hh => hgo res (by
        refine x_callv (as' := [.int (b2i g)]) (r := none) cd_i103_59 h5.1 (by omega) rfl rfl rfl rfl rfl rfl (d1) ?_
        exact hh))
      refine ⟨s7, i7, p7, ii c, k1, k2, k3, ?_, ?_, k7, k8, k9, k10⟩
      · rw [k4]
        cases hq : (tkC txt 2).1 with
        | none => rfl
        | some q =>
          dsimp only
          cases hD : dec q with
          | none =>
            have : g = false := by
              cases h : g with
              | false => rfl
              | true =>
                obtain ⟨q', h1, D, h2⟩ := hg.mp h
                rw [hq] at h1
                rw [← Option.some.inj h1, hD] at h2
                cases h2
            rw [this]
            rfl
          | some D =>
            rw [hg.mpr ⟨q, hq, D, hD⟩, if_pos (show (some D).isSome = true from rfl)]
            by_cases h3 : txt.getD 3 0 = 123
            · rw [if_pos h3, beq_iff_eq.mpr h3]
              rfl
            · rw [if_neg h3, beq_eq_false_iff_ne.mpr h3]
              rfl
      · intro H hH
        cases hq : (tkC txt 2).1 with
        | none =>
          rw [hq] at hH
          cases hH
        | some q =>
          rw [hq] at hH k5
          dsimp only at hH
          cases hD : dec q with
          | none =>
            rw [hD] at hH
            cases hH
          | some D =>
            rw [hD, if_pos (show (some D).isSome = true from rfl)] at hH
            by_cases h3 : txt.getD 3 0 = 123
            · have hlt3 := getD_lt h3 (by decide)
              rw [if_pos h3] at hH
              rw [← Option.some.inj hH]
              have := k6 h3
              exact ⟨rfl, k5, this, e2, by omega, fun p hp => ⟨D, by rw [← Option.some.inj hp]; exact hD⟩⟩
            · rw [if_neg h3] at hH
              cases hH
    · rw [if_neg h58] at b2 i3 ⊢
      rw [beq_eq_false_iff_ne.mpr h58] at go2
      obtain ⟨s7, i7, p7, k1, k2, k3, k4, k5, k6, k7, k8, k9, k10⟩ := tail s3 _ 1 true (ii c) b2 rfl (by decide) a4 i3 f3 (fun res hh => go2 res (x_if_t cd_i103_23 rfl hh))
      refine ⟨s7, i7, p7, ii c, k1, k2, k3, ?_, ?_, k7, k8, k9, k10⟩
      · rw [k4, Bool.true_and]
        by_cases h3 : txt.getD 1 0 = 123
        · rw [if_pos h3, beq_iff_eq.mpr h3]
          rfl
        · rw [if_neg h3, beq_eq_false_iff_ne.mpr h3]
          rfl
      · intro H hH
        by_cases h3 : txt.getD 1 0 = 123
        · have hlt3 := getD_lt h3 (by decide)
          rw [if_pos h3] at hH
          rw [← Option.some.inj hH]
          have := k6 h3
          exact ⟨rfl, k5, this, e2, by omega, fun p hp => by cases hp⟩
        · rw [if_neg h3] at hH
          cases hH
theorem m_readDecl {σ : am_H} {i : Nat → Int32} {a : Nat → Nat → Int32} {rk : Nat → Nat} (hd : 5 < d) (hT : ∀ c ∈ txt, cok c) (hM : mo σ m i a) (hB : M_buf i a txt) (hP : M_at i 0) (hG : i 4 = b2i true) (hC : M_cat a dec) (hO : catOk dec) (hrk : ranked dec rk) :
    ∃ (σ' : am_H) (i' : Nat → Int32) (a' : Nat → Nat → Int32) (z : Int32), am_to cd_t cs d 103 0 (am_ent 4 [.ref m]) [] σ top sl (.inl (some (.int z)), σ', top, sl) ∧ mo σ' m i' a' ∧ i' 4 = b2i (pDecl dec txt).isSome ∧ (∀ c par ms, pDecl dec txt = some (c, par, ms) → z = ii c ∧ c < 10 ∧ i' 37 = oi par ∧ i' 38 = ii ms.length ∧ ms.length ≤ 6 ∧ (∀ N ∈ ms, memOk N) ∧ ∀ k, k < ms.length → M_mem a' (60 + k) (ms.getD k default)) ∧ (∀ q, q ∉ [3, 4, 37, 38] → i' q = i q) ∧ M_low a a' ∧ ∀ x, x < m ∨ m + 25 ≤ x → σ' x = σ x := by
  have hlen := hB.2.1
  obtain ⟨s1, i1, p1, z, a1, a2, a3, a4, a5, a6, a7, a8, a9⟩ := m_decl_head (cs := cs) (d := d) (top := top) (sl := sl) hd hT hM hB hP hG hC
  have stop : ∀ (s : am_H) (j : Nat → Int32) (b : Nat → Nat → Int32) (q : Nat) (g : Bool) (v2 v3 : Option Value), mo s m j b → M_at j q → q < 900 → j 4 = b2i g → j 2 = ii txt.length → ∃ s', am_to cd_t cs d 103 242 [some (.ref m), some (.int z), v2, v3] [] s top sl (.inl (some (.int z)), s', top, sl) ∧ mo s' m (upd j 4 (b2i (g && (q == txt.length)))) b ∧ ∀ x, x < m ∨ m + 25 ≤ x → s' x = s x := by
    intro s j b q g v2 v3 t1 t2 t3 t4 t5
    obtain ⟨s', b1, b2, b3⟩ := m_must (cs := cs) (d := d - 1) (top := top) (sl := sl) (s := (q == txt.length)) (g := g) t1 t4
    refine ⟨s', ?_, b2, b3⟩
    have fin : am_to cd_t cs d 103 259 [some (.ref m), some (.int z), v2, v3] [.int (b2i (q == txt.length)), .ref m] s top sl (.inl (some (.int z)), s', top, sl) := by
      refine x_callv (as' := [.int (b2i (q == txt.length))]) (r := none) cd_i103_259 t1.1 (by omega) rfl rfl rfl rfl rfl rfl (b1) ?_
      refine x_n cd_i103_262 rfl rfl ?_
      show am_to cd_t _ _ 103 263 _ _ _ _ _ _
      exact x_end cd_i103_263 rfl rfl rfl
    refine x_n cd_i103_242 rfl rfl ?_
    refine x_n cd_i103_243 rfl rfl ?_
    show am_to cd_t _ _ 103 244 _ _ _ _ _ _
    refine x_getf cd_i103_244 t1.1 (congrArg (fun z => some (Value.int z)) (t2)) rfl ?_
    refine x_n cd_i103_247 rfl rfl ?_
    show am_to cd_t _ _ 103 248 _ _ _ _ _ _
    refine x_getf cd_i103_248 t1.1 (congrArg (fun z => some (Value.int z)) (t5)) rfl ?_
    by_cases e : q = txt.length
    · rw [beq_iff_eq.mpr e] at fin
      refine x_icmp_f cd_i103_251 (fun y => y (by rw [e])) ?_
      refine x_ic cd_i103_254 (z := ii 1) rfl ?_
      refine x_n cd_i103_255 rfl rfl ?_
      show am_to cd_t _ _ 103 259 _ _ _ _ _ _
      exact fin
    · rw [beq_eq_false_iff_ne.mpr e] at fin
      refine x_icmp_t cd_i103_251 (fun y => e ((ii_eq (by omega) (by omega)).mp y)) ?_
      refine x_ic cd_i103_258 (z := ii 0) rfl ?_
      show am_to cd_t _ _ 103 259 _ _ _ _ _ _
      exact fin
  unfold pDecl
  cases hH : pHd dec txt with
  | none =>
    rw [hH] at a4
    obtain ⟨s2, k1, k2, k3⟩ := stop s1 i1 a p1 false none none a1 a2 a3 a4 ((a7 2 (by decide)).trans hB.1)
    refine ⟨s2, _, a, z, a9 _ ?_, k2, rfl, (fun c par ms h => by cases h), fun q hq => ?_, M_low.refl _, fun x hx => (k3 x hx).trans (a8 x hx)⟩
    · refine x_n cd_i103_73 rfl rfl ?_
      show am_to cd_t _ _ 103 74 _ _ _ _ _ _
      refine x_getf cd_i103_74 a1.1 (congrArg (fun z => some (Value.int z)) (a4)) rfl ?_
      exact x_if_t cd_i103_77 rfl k1
    · rw [upd_ne (fun z => hq (by rw [z]; decide))]
      exact a7 q hq
  | some H =>
    obtain ⟨b1, b2, b3, b4, b5, b6⟩ := a5 H hH
    rw [hH] at a4
    rw [b1] at a9 stop
    obtain ⟨s2, i2, a2', p2, v2, v3, k1, k2, k3, k4, k5, k6, k7, k8, k9⟩ := m_decl_loop (cs := cs) (d := d) (m := m) (top := top) (sl := sl) (c := H.1) (par := H.2.1) hd hT hO hrk b4 b6 6 p1 s1 i1 a [] none none rfl a1 ⟨(a7 2 (by decide)).trans hB.1, hB.2⟩ a2 b5 a4 b2 a6 hC (fun N hN => by cases hN) (fun k hk => absurd hk (Nat.not_lt_zero k))
    have i2' : ∀ q, q ∉ [3, 4, 37, 38] → i2 q = i q := fun q hq => (k6 q (fun z => hq (by simp at z ⊢; omega))).trans (a7 q hq)
    obtain ⟨s3, l1, l2, l3⟩ := stop s2 i2 a2' p2 _ v2 v3 k1 k2 (by omega) k4 ((i2' 2 (by decide)).trans hB.1)
    have e6 : ((6 : Nat) == 6) = true := rfl
    rw [e6, ← pMbs_eq, b3] at k4 k5 l2
    dsimp only
    refine ⟨s3, _, a2', _, a9 _ (k9 _ l1), l2, ?_, ?_, fun q hq => ?_, k7, fun x hx => (l3 x hx).trans ((k8 x hx).trans (a8 x hx))⟩
    · rw [upd_eq]
      cases hR : pMbs dec H.2.1 H.1 txt H.2.2 with
      | none => rfl
      | some R =>
        obtain ⟨y1, y2, y3, y4, y5⟩ := k5 R hR
        dsimp only
        rw [y1]
        by_cases e : R.2 = txt.length
        · rw [if_pos e, beq_iff_eq.mpr e]
          rfl
        · rw [if_neg e, beq_eq_false_iff_ne.mpr e]
          rfl
    · intro c par ms h
      cases hR : pMbs dec H.2.1 H.1 txt H.2.2 with
      | none =>
        rw [hR] at h
        cases h
      | some R =>
        obtain ⟨y1, y2, y3, y4, y5⟩ := k5 R hR
        rw [hR] at h
        dsimp only at h
        by_cases e : R.2 = txt.length
        · rw [if_pos e] at h
          have h := Option.some.inj h
          have h1 := (Prod.mk.inj h).1
          have h2 := (Prod.mk.inj (Prod.mk.inj h).2).1
          have h3 := (Prod.mk.inj (Prod.mk.inj h).2).2
          rw [← h1, ← h2, ← h3]
          exact ⟨rfl, b4, (k6 37 (by decide)).trans b2, y2, y4, y3, y5⟩
        · rw [if_neg e] at h
          cases h
    · rw [upd_ne (fun z => hq (by rw [z]; decide))]
      exact i2' q hq
end RF
