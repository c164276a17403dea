section RP
variable {cs : Nat → Value} {d m top sl : Nat} {σ : am_H} {i : Nat → Int32} {a : Nat → Nat → Int32} {dec : Nat → Option Dec} {pl : Int32} {rk : Nat → Nat} {vs : List (List Nat × Nat)} {txt : List Nat} {p dep k0 : Nat}
theorem uOut.step {F : (Nat → ERes) → ERes} {F' : (Nat → ERes) → ERes} {z : Int32} {i' : Nat → Int32} {a' : Nat → Nat → Int32} (h : uOut dec txt dep k0 F z i' a') (hF : ∀ E, F' E = F E) : uOut dec txt dep k0 F' z i' a' := by
  have : F' = F := funext hF
  rw [this]
  exact h
/-- a name and what it means: of a value, or of a class -/
theorem m_name_use {t : Nat ⊕ Nat} {w : List Nat} {q : Nat} (hd : 4 < d) (hT : ∀ c ∈ txt, cok c) (hM : mo σ m i a) (hB : M_buf i a txt) (hP : M_at i q) (hq : q ≤ txt.length) (hG : i 4 = b2i true) (hop : i 33 = ii dep) (hdep : dep ≤ 6) (hk0 : i 36 = ii k0) (hC : M_cat a dec) (hO : catOk dec) (hr : ranked dec rk) (hpl : i 18 = pl) (hw : nameOk w) (ht : match t with | .inl t => t < 13 | .inr c => c < 10) :
    am_to cd_t cs (d - 1) 150 0 (am_ent 7 [.ref m, .int (tI t), .int (ii (n27 w)), .int (ii (kA txt q))]) [] σ top sl (.inl (some (.int (rowO (pickT dec pl (kA txt q) w t)))), σ, top, sl) ∧
    ∃ (σ' : am_H) (i' : Nat → Int32) (a' : Nat → Nat → Int32) (z : Int32), am_to cd_t cs (d - 1) 149 0 (am_ent 2 [.ref m, .int (rowO (pickT dec pl (kA txt q) w t))]) [] σ top sl (.inl (some (.int z)), σ', top, sl) ∧ mo σ' m i' a' ∧ CK dep i i' a a' ∧ uOut dec txt dep k0 (fun E => useP dec txt E (pickT dec pl (kA txt q) w t) q) z i' a' ∧ ∀ x, x < m ∨ m + 25 ≤ x → σ' x = σ x := by
  refine ⟨m_memberOf (by omega) hM hC hO hr hpl (kA_lt _) hw ht, m_use (by omega) hT hM hB hP hq hG hop hdep hk0 hC hO hr (fun r hr' => ?_)⟩
  cases t with
  | inl t => exact fs_in (c := 0) (x := r.1) (j := r.2) hr'
  | inr c => exact sta_in hr'
theorem m_primary (hd : 5 < d) (hT : ∀ c ∈ txt, cok c) (hM : mo σ m i a) (hB : M_buf i a txt) (hP : M_at i p) (hp : p ≤ txt.length) (hG : i 4 = b2i true) (hop : i 33 = ii dep) (hdep : dep ≤ 6) (hk0 : i 36 = ii k0) (hC : M_cat a dec) (hU : M_und a dec) (hO : catOk dec) (hr : ranked dec rk) (hpl : i 18 = pl) (hS : M_sco i a vs) (hV : distV vs) :
    ∃ (σ' : am_H) (i' : Nat → Int32) (a' : Nat → Nat → Int32) (z : Int32), am_to cd_t cs d 147 0 (am_ent 3 [.ref m]) [] σ top sl (.inl (some (.int z)), σ', top, sl) ∧ mo σ' m i' a' ∧ CK dep i i' a a' ∧ uOut dec txt dep k0 (fun E => headP dec pl vs txt E p) z i' a' ∧ ∀ x, x < m ∨ m + 25 ≤ x → σ' x = σ x := by
  have hlen := hB.2.1
  obtain ⟨s1, a1, a2, a3⟩ := m_word (cs := cs) (d := d - 1) (top := top) (sl := sl) (n := 4) (a := 110) (b := 101) (c := 119) (e := 32) (f := 0) (g := 0) (by omega) hT hM hB hP (by omega) (by omega) (by decide) (by decide) (by decide) (by decide) (by decide) (by decide)
  rw [show wordL 4 110 101 119 32 0 0 = wNewS from rfl] at a1 a2
  have go1 : ∀ res, am_to cd_t cs d 147 15 [some (.ref m), none, none] [.int (b2i (pre txt p wNewS))] s1 top sl res → am_to cd_t cs d 147 0 (am_ent 3 [.ref m]) [] σ top sl res := by
    intro res hh
    refine x_n cd_i147_0 rfl rfl ?_
    refine x_ic cd_i147_1 (z := ii 4) rfl ?_
    refine x_bi cd_i147_2 (z := ii 110) (by decide) ?_
    refine x_bi cd_i147_4 (z := ii 101) (by decide) ?_
    refine x_bi cd_i147_6 (z := ii 119) (by decide) ?_
    refine x_bi cd_i147_8 (z := ii 32) (by decide) ?_
    refine x_ic cd_i147_10 (z := ii 0) rfl ?_
    refine x_ic cd_i147_11 (z := ii 0) rfl ?_
    show am_to cd_t _ _ 147 12 _ _ _ _ _ _
    refine x_callv (as' := [.int (ii 4), .int (ii 110), .int (ii 101), .int (ii 119), .int (ii 32), .int (ii 0), .int (ii 0)]) cd_i147_12 hM.1 (by omega) rfl rfl rfl rfl rfl rfl (a1) ?_
    exact hh
  cases hn : pre txt p wNewS with
  | true =>
    have hl4 := pre_len wNewS p hp (by decide) hn
    rw [hn, if_pos rfl] at a2
    rw [hn] at go1
    have ck1 : CK dep i (upd i 3 (ii (p + 4))) a a := CK.num i a (by decide)
    obtain ⟨s2, i2, b1, b2, b3, b4, b5, b6⟩ := m_readClass (cs := cs) (d := d - 1) (top := top) (sl := sl) (g := true) (p := p + 4) (by omega) hT a2 (show M_buf (upd i 3 (ii (p + 4))) a txt from hB) rfl hG (by have : (p + 4) ≤ txt.length := hl4; omega)
    rw [if_pos rfl] at b1
    rw [Bool.true_and] at b4
    have ck2 : CK dep i i2 a a := ck1.trans (CK.same b5) (Nat.le_refl _)
    have f2 : ∀ y, y < m ∨ m + 25 ≤ y → s2 y = σ y := fun y hy => (b6 y hy).trans (a3 y hy)
    have go2 : ∀ res, am_to cd_t cs d 147 27 [some (.ref m), some (.int (ii ((tkC txt (p + 4)).1.getD 0))), none] [.int (b2i (tkC txt (p + 4)).1.isSome)] s2 top sl res → am_to cd_t cs d 147 0 (am_ent 3 [.ref m]) [] σ top sl res := by
      intro res hh
      refine go1 res (x_if_f cd_i147_15 (fun z => absurd (show (1 : Int32) = 0 from z) (by decide)) ?_)
      refine x_n cd_i147_18 rfl rfl ?_
      show am_to cd_t _ _ 147 19 _ _ _ _ _ _
      refine x_callv (as' := []) cd_i147_19 a2.1 (by omega) rfl rfl rfl rfl rfl rfl (b1) ?_
      refine x_n cd_i147_22 rfl rfl ?_
      try dsimp only [List.set]
      refine x_n cd_i147_23 rfl rfl ?_
      show am_to cd_t _ _ 147 24 _ _ _ _ _ _
      refine x_getf cd_i147_24 b2.1 (congrArg (fun z => some (Value.int z)) (b4)) rfl ?_
      exact hh
    cases hc : (tkC txt (p + 4)).1 with
    | none =>
      rw [hc] at go2 b4
      refine ⟨s2, i2, a, -1, go2 _ (x_if_t cd_i147_27 rfl ?_), b2, ck2, Or.inl ⟨fun E _ => ?_, b4⟩, f2⟩
      · refine x_ic cd_i147_42 (z := (-1)) rfl ?_
        show am_to cd_t _ _ 147 43 _ _ _ _ _ _
        exact x_end cd_i147_43 rfl rfl rfl
      · show headP dec pl vs txt E p = none
        unfold headP
        rw [if_pos hn, hc]
    | some c =>
      obtain ⟨y1, y2, y3⟩ := tkC_some hc
      rw [hc] at go2 b4
      have B2 : M_buf i2 a txt := ⟨(ck2.1 2 (by decide)).trans hB.1, hB.2⟩
      have hmk := m_makerOf (cs := cs) (d := d - 1) (top := top) (sl := sl) (c := c) (by omega) b2 hC hU hO ((ck2.1 18 (by decide)).trans hpl) y2
      obtain ⟨s3, i3, a3', z, c1, c2, c3, c4, c5⟩ := m_use (cs := cs) (d := d - 1) (top := top) (sl := sl) (o := ownL dec pl c 2 []) (dep := dep) (k0 := k0) (by omega) hT b2 B2 b3 (show p + 4 + 1 ≤ txt.length by omega) b4 ((b5.1 33 (by decide)).trans hop) hdep ((b5.1 36 (by decide)).trans hk0) hC hO hr (fun q hq => by
        obtain ⟨e1, D, hD, hj, -, -⟩ := own_in (x := q.1) (j := q.2) hq
        exact ⟨D, by rw [e1]; exact hD, hj⟩)
      refine ⟨s3, i3, a3', z, go2 _ (x_if_f cd_i147_27 (fun z => absurd (show (1 : Int32) = 0 from z) (by decide)) ?_), c2, ck2.trans c3 (Nat.le_refl _), c4.step (fun E => ?_), fun y hy => (c5 y hy).trans (f2 y hy)⟩
      · refine x_n cd_i147_30 rfl rfl ?_
        refine x_n cd_i147_31 rfl rfl ?_
        refine x_n cd_i147_32 rfl rfl ?_
        show am_to cd_t _ _ 147 33 _ _ _ _ _ _
        refine x_callv (as' := [.int (ii c)]) cd_i147_33 b2.1 (by omega) rfl rfl rfl rfl rfl rfl (hmk) ?_
        refine x_callv (as' := [.int (rowO (ownL dec pl c 2 []))]) cd_i147_36 b2.1 (by omega) rfl rfl rfl rfl rfl rfl (c1) ?_
        refine x_n cd_i147_39 rfl rfl ?_
        show am_to cd_t _ _ 147 43 _ _ _ _ _ _
        exact x_end cd_i147_43 rfl rfl rfl
      · unfold headP
        rw [if_pos hn, hc]
  | false =>
    rw [hn, if_neg (by decide)] at a2
    rw [hn] at go1
    have ck1 : CK dep i (upd i 3 (ii p)) a a := CK.num i a (by decide)
    have B1 : M_buf (upd i 3 (ii p)) a txt := hB
    have look := m_look (cs := cs) (d := d - 1) (top := top) (sl := sl) (k := 0) a2 B1 rfl hT (show p < 1000 by omega) (by decide)
    rw [Nat.add_zero] at look
    have hlp := getD_cok hT p
    have ehd : ∀ E, headP dec pl vs txt E p = (match (tkC txt p).1 with
      | none => (match tkN txt p with
        | none => none
        | some w => (varT vs w).map (fun t => (t, p + (wl txt p).length, 0)))
      | some c => if txt.getD (p + 1) 0 = 46 then (match tkN txt (p + 2) with
        | none => none
        | some w => useP dec txt E (staL dec pl c (kA txt (p + 2 + (wl txt (p + 2)).length)) w) (p + 2 + (wl txt (p + 2)).length)) else none) := by
      intro E
      unfold headP
      rw [if_neg (by rw [hn]; decide)]
      rfl
    have go2 : ∀ res, am_to cd_t cs d 147 52 [some (.ref m), none, none] [.int (b2i (tkC txt p).1.isSome)] s1 top sl res → am_to cd_t cs d 147 0 (am_ent 3 [.ref m]) [] σ top sl res := by
      intro res hh
      refine go1 res (x_if_t cd_i147_15 rfl ?_)
      refine x_n cd_i147_44 rfl rfl ?_
      refine x_ic cd_i147_45 (z := ii 0) rfl ?_
      show am_to cd_t _ _ 147 46 _ _ _ _ _ _
      refine x_callv (as' := [.int (ii 0)]) cd_i147_46 a2.1 (by omega) rfl rfl rfl rfl rfl rfl (look) ?_
      refine x_calls (as := [.int (ii (txt.getD p 0))]) cd_i147_49 (by omega) rfl rfl rfl rfl rfl rfl (m_large (by omega)) ?_
      rw [big_iff]
      exact hh
    cases hc : (tkC txt p).1 with
    | some c =>
      obtain ⟨y1, y2, y3⟩ := tkC_some hc
      rw [hc] at go2
      obtain ⟨s2, i2, b1, b2, b3, b4, b5, b6⟩ := m_readClass (cs := cs) (d := d - 1) (top := top) (sl := sl) (g := true) (p := p) (by omega) hT a2 B1 rfl hG (by omega)
      rw [if_pos rfl, hc] at b1
      rw [hc] at b4
      have ck2 : CK dep i i2 a a := ck1.trans (CK.same b5) (Nat.le_refl _)
      have B2 : M_buf i2 a txt := ⟨(ck2.1 2 (by decide)).trans hB.1, hB.2⟩
      obtain ⟨s3, c1, c2, c3⟩ := m_expect (cs := cs) (d := d - 1) (top := top) (sl := sl) (c := 46) (g := true) (p := p + 1) (by omega) b2 B2 b3 b4 hT (by omega) (by decide)
      rw [Bool.true_and] at c2
      have ck3 := (ck2.trans (CK.num (k := 3) (x := ii (if txt.getD (p + 1) 0 = 46 then p + 1 + 1 else p + 1)) i2 a (by decide)) (Nat.le_refl _)).trans (CK.num (k := 4) (x := b2i (txt.getD (p + 1) 0 == 46)) _ a (by decide)) (Nat.le_refl _)
      have hq3 : (if txt.getD (p + 1) 0 = 46 then p + 1 + 1 else p + 1) ≤ txt.length := by
        split
        · next h => exact getD_lt h (by decide)
        · omega
      obtain ⟨q3, hq3e⟩ : ∃ q, q = (if txt.getD (p + 1) 0 = 46 then p + 1 + 1 else p + 1) := ⟨_, rfl⟩
      rw [← hq3e] at c2 ck3 hq3
      generalize hi3 : upd (upd i2 3 (ii q3)) 4 (b2i (txt.getD (p + 1) 0 == 46)) = i3 at c2 ck3
      have e3 : M_at i3 q3 := by rw [← hi3]; rfl
      have e4 : i3 4 = b2i (txt.getD (p + 1) 0 == 46) := by rw [← hi3]; rfl
      have B3 : M_buf i3 a txt := ⟨(ck3.1 2 (by decide)).trans hB.1, hB.2⟩
      obtain ⟨s4, i4, d1, d2, d3, d4, d5, d6⟩ := m_readName (cs := cs) (d := d - 1) (top := top) (sl := sl) (p := q3) (g := (txt.getD (p + 1) 0 == 46)) (by omega) hT c2 B3 e3 e4 (by omega)
      have ck4 : CK dep i i4 a a := ck3.trans (CK.same d5) (Nat.le_refl _)
      have f4 : ∀ y, y < m ∨ m + 25 ≤ y → s4 y = σ y := fun y hy => (d6 y hy).trans ((c3 y hy).trans ((b6 y hy).trans (a3 y hy)))
      have hwl := wl_len txt q3 hq3
      have B4 : M_buf i4 a txt := ⟨(ck4.1 2 (by decide)).trans hB.1, hB.2⟩
      have go3 : ∀ res, am_to cd_t cs d 147 75 [some (.ref m), some (.int (ii c)), some (.int (ii (wv27 txt q3)))] [.int (b2i ((txt.getD (p + 1) 0 == 46) && (tkN txt q3).isSome))] s4 top sl res → am_to cd_t cs d 147 0 (am_ent 3 [.ref m]) [] σ top sl res := by
        intro res hh
        refine go2 res (x_if_f cd_i147_52 (fun z => absurd (show (1 : Int32) = 0 from z) (by decide)) ?_)
        refine x_n cd_i147_55 rfl rfl ?_
        show am_to cd_t _ _ 147 56 _ _ _ _ _ _
        refine x_callv (as' := []) cd_i147_56 a2.1 (by omega) rfl rfl rfl rfl rfl rfl (b1) ?_
        refine x_n cd_i147_59 rfl rfl ?_
        try dsimp only [List.set]
        refine x_n cd_i147_60 rfl rfl ?_
        refine x_bi cd_i147_61 (z := ii 46) (by decide) ?_
        show am_to cd_t _ _ 147 63 _ _ _ _ _ _
        refine x_callv (as' := [.int (ii 46)]) (r := none) cd_i147_63 b2.1 (by omega) rfl rfl rfl rfl rfl rfl (c1) ?_
        refine x_n cd_i147_66 rfl rfl ?_
        show am_to cd_t _ _ 147 67 _ _ _ _ _ _
        refine x_callv (as' := []) cd_i147_67 c2.1 (by omega) rfl rfl rfl rfl rfl rfl (d1) ?_
        refine x_n cd_i147_70 rfl rfl ?_
        try dsimp only [List.set]
        refine x_n cd_i147_71 rfl rfl ?_
        show am_to cd_t _ _ 147 72 _ _ _ _ _ _
        refine x_getf cd_i147_72 d2.1 (congrArg (fun z => some (Value.int z)) (d4)) rfl ?_
        exact hh
      have bad : ((txt.getD (p + 1) 0 == 46) && (tkN txt q3).isSome) = false → (∀ E, headP dec pl vs txt E p = none) → ∃ (σ' : am_H) (i' : Nat → Int32) (a' : Nat → Nat → Int32) (z : Int32), am_to cd_t cs d 147 0 (am_ent 3 [.ref m]) [] σ top sl (.inl (some (.int z)), σ', top, sl) ∧ mo σ' m i' a' ∧ CK dep i i' a a' ∧ uOut dec txt dep k0 (fun E => headP dec pl vs txt E p) z i' a' ∧ ∀ x, x < m ∨ m + 25 ≤ x → σ' x = σ x := by
        intro hb hE
        rw [hb] at go3 d4
        refine ⟨s4, i4, a, -1, go3 _ (x_if_t cd_i147_75 rfl ?_), d2, ck4, Or.inl ⟨fun E _ => hE E, d4⟩, f4⟩
        refine x_ic cd_i147_108 (z := (-1)) rfl ?_
        show am_to cd_t _ _ 147 109 _ _ _ _ _ _
        exact x_end cd_i147_109 rfl rfl rfl
      by_cases h46 : txt.getD (p + 1) 0 = 46
      · rw [if_pos h46] at hq3e
        have ehd2 : ∀ E, headP dec pl vs txt E p = (match tkN txt q3 with
          | none => none
          | some w => useP dec txt E (staL dec pl c (kA txt (q3 + (wl txt q3).length)) w) (q3 + (wl txt q3).length)) := by
          intro E
          rw [ehd, hc]
          dsimp only
          rw [if_pos h46, hq3e]
        cases hN : tkN txt q3 with
        | none =>
          exact bad (by rw [hN, Option.isSome_none, Bool.and_false]) (fun E => by rw [ehd2, hN])
        | some w =>
          obtain ⟨w0, w1, w2, w3⟩ := tkN_some hN
          have ew : wv27 txt q3 = n27 w := by
            unfold wv27
            rw [← w0, if_pos w3]
          rw [hN, beq_iff_eq.mpr h46] at go3 d4
          rw [ew] at go3
          have look2 := m_look (cs := cs) (d := d - 1) (top := top) (sl := sl) (k := 0) d2 B4 d3 hT (by omega) (by decide)
          rw [Nat.add_zero] at look2
          have hlq := getD_cok hT (q3 + (wl txt q3).length)
          obtain ⟨l1, s5, i5, a5, z, m1, m2, m3, m4, m5⟩ := m_name_use (cs := cs) (d := d) (top := top) (sl := sl) (t := .inr c) (w := w) (dep := dep) (k0 := k0) (by omega) hT d2 B4 d3 hwl d4 (by
            have e1 : i4 33 = i 33 := by
              rw [d5.1 33 (by decide), ← hi3]
              exact b5.1 33 (by decide)
            exact e1.trans hop) hdep (by
            have e1 : i4 36 = i 36 := by
              rw [d5.1 36 (by decide), ← hi3]
              exact b5.1 36 (by decide)
            exact e1.trans hk0) hC hO hr ((ck4.1 18 (by decide)).trans hpl) ⟨w1, w3⟩ y2
          refine ⟨s5, i5, a5, z, go3 _ (x_if_f cd_i147_75 (fun z => absurd (show (1 : Int32) = 0 from z) (by decide)) ?_), m2, ck4.trans m3 (Nat.le_refl _), m4.step (fun E => ?_), fun y hy => (m5 y hy).trans (f4 y hy)⟩
          · have fin : am_to cd_t cs d 147 99 [some (.ref m), some (.int (ii c)), some (.int (ii (n27 w)))] [.int (ii (kA txt (q3 + (wl txt q3).length))), .int (ii (n27 w)), .int (-1 - ii c), .ref m, .ref m] s4 top sl (.inl (some (.int z)), s5, top, sl) := by
              refine x_callv (as' := [.int (-1 - ii c), .int (ii (n27 w)), .int (ii (kA txt (q3 + (wl txt q3).length)))]) cd_i147_99 d2.1 (by omega) rfl rfl rfl rfl rfl rfl (l1) ?_
              refine x_callv (as' := [.int (rowO (pickT dec pl (kA txt (q3 + (wl txt q3).length)) w (.inr c)))]) cd_i147_102 d2.1 (by omega) rfl rfl rfl rfl rfl rfl (m1) ?_
              refine x_n cd_i147_105 rfl rfl ?_
              show am_to cd_t _ _ 147 109 _ _ _ _ _ _
              exact x_end cd_i147_109 rfl rfl rfl
            refine x_n cd_i147_78 rfl rfl ?_
            refine x_n cd_i147_79 rfl rfl ?_
            refine x_ic cd_i147_80 (z := (-1)) rfl ?_
            refine x_n cd_i147_81 rfl rfl ?_
            refine x_isub cd_i147_82 rfl ?_
            refine x_n cd_i147_83 rfl rfl ?_
            refine x_n cd_i147_84 rfl rfl ?_
            refine x_ic cd_i147_85 (z := ii 0) rfl ?_
            show am_to cd_t _ _ 147 86 _ _ _ _ _ _
            refine x_callv (as' := [.int (ii 0)]) cd_i147_86 d2.1 (by omega) rfl rfl rfl rfl rfl rfl (look2) ?_
            refine x_bi cd_i147_89 (z := ii 40) (by decide) ?_
            show am_to cd_t _ _ 147 91 _ _ _ _ _ _
            unfold kA at fin
            by_cases h40 : txt.getD (q3 + (wl txt q3).length) 0 = 40
            · rw [if_pos h40] at fin
              refine x_icmp_f cd_i147_91 (fun y => y (by rw [h40])) ?_
              refine x_ic cd_i147_94 (z := ii 1) rfl ?_
              refine x_n cd_i147_95 rfl rfl ?_
              show am_to cd_t _ _ 147 99 _ _ _ _ _ _
              exact fin
            · rw [if_neg h40] at fin
              refine x_icmp_t cd_i147_91 (fun y => h40 ((ii_eq (by omega) (by decide)).mp y)) ?_
              refine x_ic cd_i147_98 (z := ii 0) rfl ?_
              show am_to cd_t _ _ 147 99 _ _ _ _ _ _
              exact fin
          · rw [ehd2, hN]
            rfl
      · refine bad (by rw [beq_eq_false_iff_ne.mpr h46, Bool.false_and]) (fun E => ?_)
        rw [ehd, hc]
        dsimp only
        rw [if_neg h46]
    | none =>
      rw [hc] at go2
      obtain ⟨s2, i2, b1, b2, b3, b4, b5, b6⟩ := m_readName (cs := cs) (d := d - 1) (top := top) (sl := sl) (p := p) (g := true) (by omega) hT a2 B1 rfl hG (by omega)
      rw [Bool.true_and] at b4
      have ck2 : CK dep i i2 a a := ck1.trans (CK.same b5) (Nat.le_refl _)
      have S2 : M_sco i2 a vs := ⟨(ck2.1 15 (by decide)).trans hS.1, hS.2⟩
      obtain ⟨r, v1, v2, v3⟩ := m_variableOf (cs := cs) (d := d - 1) (top := top) (sl := sl) (x := wv27 txt p) b2 S2 (by have := wv27_small txt p; omega)
      obtain ⟨s3, c1, c2, c3⟩ := m_must (cs := cs) (d := d - 1) (top := top) (sl := sl) (s := r.isSome) (g := (tkN txt p).isSome) b2 b4
      have ck3 : CK dep i (upd i2 4 (b2i ((tkN txt p).isSome && r.isSome))) a a := ck2.trans (CK.num i2 a (by decide)) (Nat.le_refl _)
      have f3 : ∀ y, y < m ∨ m + 25 ≤ y → s3 y = σ y := fun y hy => (c3 y hy).trans ((b6 y hy).trans (a3 y hy))
      have go3 : ∀ res, am_to cd_t cs d 147 137 [some (.ref m), some (.int (oi r)), none] [.int (b2i ((tkN txt p).isSome && r.isSome))] s3 top sl res → am_to cd_t cs d 147 0 (am_ent 3 [.ref m]) [] σ top sl res := by
        intro res hh
        refine go2 res (x_if_t cd_i147_52 rfl ?_)
        have fin : am_to cd_t cs d 147 130 [some (.ref m), some (.int (oi r)), none] [.int (b2i r.isSome), .ref m] s2 top sl res := by
          refine x_callv (as' := [.int (b2i r.isSome)]) (r := none) cd_i147_130 b2.1 (by omega) rfl rfl rfl rfl rfl rfl (c1) ?_
          refine x_n cd_i147_133 rfl rfl ?_
          show am_to cd_t _ _ 147 134 _ _ _ _ _ _
          refine x_getf cd_i147_134 c2.1 (congrArg (fun z => some (Value.int z)) (rfl)) rfl ?_
          exact hh
        refine x_n cd_i147_110 rfl rfl ?_
        refine x_n cd_i147_111 rfl rfl ?_
        show am_to cd_t _ _ 147 112 _ _ _ _ _ _
        refine x_callv (as' := []) cd_i147_112 a2.1 (by omega) rfl rfl rfl rfl rfl rfl (b1) ?_
        refine x_callv (as' := [.int (ii (wv27 txt p))]) cd_i147_115 b2.1 (by omega) rfl rfl rfl rfl rfl rfl (v1) ?_
        refine x_n cd_i147_118 rfl rfl ?_
        try dsimp only [List.set]
        refine x_n cd_i147_119 rfl rfl ?_
        refine x_n cd_i147_120 rfl rfl ?_
        refine x_ic cd_i147_121 (z := (-1)) rfl ?_
        show am_to cd_t _ _ 147 122 _ _ _ _ _ _
        cases r with
        | none =>
          refine x_icmp_t cd_i147_122 rfl ?_
          refine x_ic cd_i147_129 (z := ii 0) rfl ?_
          show am_to cd_t _ _ 147 130 _ _ _ _ _ _
          exact fin
        | some k =>
          refine x_icmp_f cd_i147_122 (ii_ne1 (show k < 2147483648 by have := (v2 k rfl).1; have := hS.2.1; omega)) ?_
          refine x_ic cd_i147_125 (z := ii 1) rfl ?_
          refine x_n cd_i147_126 rfl rfl ?_
          show am_to cd_t _ _ 147 130 _ _ _ _ _ _
          exact fin
      have ehd3 : ∀ E, headP dec pl vs txt E p = (match tkN txt p with
        | none => none
        | some w => (varT vs w).map (fun t => (t, p + (wl txt p).length, 0))) := by
        intro E
        rw [ehd, hc]
      have bad : ((tkN txt p).isSome && r.isSome) = false → (∀ E, headP dec pl vs txt E p = none) → ∃ (σ' : am_H) (i' : Nat → Int32) (a' : Nat → Nat → Int32) (z : Int32), am_to cd_t cs d 147 0 (am_ent 3 [.ref m]) [] σ top sl (.inl (some (.int z)), σ', top, sl) ∧ mo σ' m i' a' ∧ CK dep i i' a a' ∧ uOut dec txt dep k0 (fun E => headP dec pl vs txt E p) z i' a' ∧ ∀ x, x < m ∨ m + 25 ≤ x → σ' x = σ x := by
        intro hb hE
        rw [hb] at go3 c2 ck3
        refine ⟨s3, _, a, -1, go3 _ (x_if_t cd_i147_137 rfl ?_), c2, ck3, Or.inl ⟨fun E _ => hE E, rfl⟩, f3⟩
        refine x_ic cd_i147_149 (z := (-1)) rfl ?_
        show am_to cd_t _ _ 147 150 _ _ _ _ _ _
        exact x_end cd_i147_150 rfl rfl rfl
      cases hN : tkN txt p with
      | none => exact bad (by rw [hN]; rfl) (fun E => by rw [ehd3, hN])
      | some w =>
        obtain ⟨w0, w1, w2, w3⟩ := tkN_some hN
        have ew : wv27 txt p = n27 w := by
          unfold wv27
          rw [← w0, if_pos w3]
        rw [ew] at v2 v3
        cases hr' : r with
        | none =>
          refine bad (by rw [hr', Option.isSome_none, Bool.and_false]) (fun E => ?_)
          rw [ehd3, hN]
          dsimp only
          rw [(varT_none w1 S2).mpr (v3 hr')]
          rfl
        | some k =>
          obtain ⟨k1, k2⟩ := v2 k hr'
          have hmem : vs.getD k default ∈ vs := by
            rw [List.getD_eq_getElem?_getD, List.getElem?_eq_getElem k1]
            exact List.getElem_mem k1
          have en : (vs.getD k default).1 = w := n27_inj (hS.2.2.1 _ hmem).1 w1 k2
          rw [hN, hr'] at go3 c2 ck3
          have hv5 : k < 5 := by have := hS.2.1; omega
          refine ⟨s3, _, a, ii (vs.getD k default).2, go3 _ (x_if_f cd_i147_137 (fun z => absurd (show (1 : Int32) = 0 from z) (by decide)) ?_), c2, ck3, Or.inr (Or.inl ⟨(vs.getD k default).2, p + (wl txt p).length, 0, (hS.2.2.1 _ hmem).2.2.2, wl_len txt p hp, fun E => ?_, rfl, rfl, b3, (b5.1 33 (by decide)).trans hop, (b5.1 36 (by decide)).trans hk0⟩), f3⟩
          · refine x_n cd_i147_140 rfl rfl ?_
            refine x_getf cd_i147_141 c2.1 rfl rfl ?_
            refine x_n cd_i147_144 rfl rfl ?_
            show am_to cd_t _ _ 147 145 _ _ _ _ _ _
            refine x_iald cd_i147_145 (c2.2 13 (by decide) (by decide)) (show _ < 5 by omega) (by decide) ((hS.2.2.2 k k1).2) ?_
            refine x_n cd_i147_146 rfl rfl ?_
            show am_to cd_t _ _ 147 150 _ _ _ _ _ _
            exact x_end cd_i147_150 rfl rfl rfl
          · show headP dec pl vs txt E p = _
            rw [ehd3, hN]
            dsimp only
            rw [← en, varT_at hV k1]
            rfl
end RP
