def distV (vs : List (List Nat × Nat)) : Prop := ∀ i j, i < vs.length → j < vs.length → (vs.getD i default).1 = (vs.getD j default).1 → i = j
theorem varT_at {vs : List (List Nat × Nat)} {k : Nat} (hd : distV vs) (hk : k < vs.length) : varT vs (vs.getD k default).1 = some (vs.getD k default).2 := by
  have hg : ∀ k, (h : k < vs.length) → vs.getD k default = vs[k] := fun k h => by rw [List.getD_eq_getElem?_getD, List.getElem?_eq_getElem h]; rfl
  unfold varT
  cases hf : vs.find? (fun q => q.1 == (vs.getD k default).1) with
  | none =>
    have := List.find?_eq_none.mp hf (vs.getD k default) (by rw [hg k hk]; exact List.getElem_mem hk)
    rw [beq_self_eq_true] at this
    exact absurd rfl this
  | some q =>
    have h1 := List.find?_some hf
    have h2 := List.mem_of_find?_eq_some hf
    obtain ⟨j, hj, e⟩ := List.getElem_of_mem h2
    have : j = k := hd j k hj hk (by rw [hg j hj, e]; exact beq_iff_eq.mp h1)
    rw [← e, ← hg j hj, this]
    rfl
/-- how a use in an expression ends: badly, at once, or with arguments to come -/
def uOut (dec : Nat → Option Dec) (txt : List Nat) (dep k0 : Nat) (F : (Nat → ERes) → ERes) (z : Int32) (i' : Nat → Int32) (a' : Nat → Nat → Int32) : Prop :=
  ((∀ E : Nat → ERes, (dep = 6 → ∀ q, E q = none) → F E = none) ∧ i' 4 = b2i false) ∨
  (∃ t q k, t < 13 ∧ q ≤ txt.length ∧ (∀ E, F E = some (t, q, k)) ∧ z = ii t ∧ i' 4 = b2i true ∧ M_at i' q ∧ i' 33 = ii dep ∧ i' 36 = ii (k0 + k)) ∨
  (∃ x j D q, dec x = some D ∧ j < D.2.length ∧ (D.2.getD j default).2.2.2.2.1 ≠ [] ∧ dep < 6 ∧ q ≤ txt.length ∧ (∀ E, F E = (argsP dec txt E (D.2.getD j default).2.2.2.2.1 true q).map (fun S => ((D.2.getD j default).2.2.2.2.2, S.1, 1 + S.2))) ∧ z = -1 ∧ i' 4 = b2i true ∧ M_at i' q ∧ i' 33 = ii (dep + 1) ∧ i' 36 = ii (k0 + 1) ∧ a' 23 dep = ii (6 * x + j) ∧ a' 24 dep = ii 0)
section RU
variable {cs : Nat → Value} {d m top sl : Nat} {σ : am_H} {i : Nat → Int32} {a : Nat → Nat → Int32} {dec : Nat → Option Dec} {pl : Int32} {rk : Nat → Nat} {vs : List (List Nat × Nat)} {txt : List Nat} {p dep k0 : Nat}
theorem m_use {o : Option (Nat × Nat)} (hd : 3 < d) (hT : ∀ c ∈ txt, cok c) (hM : mo σ m i a) (hB : M_buf i a txt) (hP : M_at i p) (hp : p ≤ txt.length) (hG : i 4 = b2i true) (hop : i 33 = ii dep) (hdep : dep ≤ 6) (hk0 : i 36 = ii k0) (hC : M_cat a dec) (hO : catOk dec) (hr : ranked dec rk) (ho : ∀ q, o = some q → ∃ D, dec q.1 = some D ∧ q.2 < D.2.length) :
    ∃ (σ' : am_H) (i' : Nat → Int32) (a' : Nat → Nat → Int32) (z : Int32), am_to cd_t cs d 149 0 (am_ent 2 [.ref m, .int (rowO o)]) [] σ top sl (.inl (some (.int z)), σ', top, sl) ∧ mo σ' m i' a' ∧ CK dep i i' a a' ∧ uOut dec txt dep k0 (fun E => useP dec txt E o p) z i' a' ∧ ∀ x, x < m ∨ m + 25 ≤ x → σ' x = σ x := by
  have hlen := hB.2.1
  cases o with
  | none =>
    obtain ⟨s1, b1, b2, b3⟩ := m_must (cs := cs) (d := d - 1) (top := top) (sl := sl) (s := false) (g := true) hM hG
    refine ⟨s1, _, a, -1, ?_, b2, CK.num i a (by decide), Or.inl ⟨fun _ _ => rfl, rfl⟩, b3⟩
    refine x_n cd_i149_0 rfl rfl ?_
    refine x_n cd_i149_1 rfl rfl ?_
    refine x_ic cd_i149_2 (z := (-1)) rfl ?_
    show am_to cd_t _ _ 149 3 _ _ _ _ _ _
    refine x_icmp_t cd_i149_3 rfl ?_
    refine x_ic cd_i149_10 (z := ii 0) rfl ?_
    show am_to cd_t _ _ 149 11 _ _ _ _ _ _
    refine x_callv (as' := [.int (b2i false)]) (r := none) cd_i149_11 hM.1 (by omega) rfl rfl rfl rfl rfl rfl (b1) ?_
    refine x_n cd_i149_14 rfl rfl ?_
    show am_to cd_t _ _ 149 15 _ _ _ _ _ _
    refine x_getf cd_i149_15 b2.1 (congrArg (fun z => some (Value.int z)) (rfl)) rfl ?_
    refine x_if_f cd_i149_18 (fun z => z rfl) ?_
    refine x_ic cd_i149_21 (z := (-1)) rfl ?_
    show am_to cd_t _ _ 149 22 _ _ _ _ _ _
    exact x_end cd_i149_22 rfl rfl rfl
  | some q =>
    obtain ⟨x, j⟩ := q
    obtain ⟨D, hD, hj⟩ := ho _ rfl
    have hD : dec x = some D := hD
    have hj : j < D.2.length := hj
    have hx := (hr x D hD).1
    obtain ⟨q1, q2, q3, q4, q5⟩ := (hC x hx).2 D hD
    have hok := (hO x D hD).2.1 _ (getD_mem hj)
    have em : memQ dec (x, j) = D.2.getD j default := by unfold memQ memsOf; rw [hD]
    obtain ⟨h1, h2, h3, h4, h5, h6, h7⟩ := q5 j hj
    have mk := hok.1
    have ht13 := hok.2.2.2.2.2.2.1
    obtain ⟨s1, b1, b2, b3⟩ := m_must (cs := cs) (d := d - 1) (top := top) (sl := sl) (s := true) (g := true) hM hG
    have c2 := b2.put (upd (upd i 4 (b2i true)) 36 (ii (k0 + 1)))
    obtain ⟨s2, hs2⟩ : ∃ z, z = am_up s1 m (.inr (.inl (11, mo_f m (upd (upd i 4 (b2i true)) 36 (ii (k0 + 1)))))) := ⟨_, rfl⟩
    have c2 : mo s2 m (upd (upd i 4 (b2i true)) 36 (ii (k0 + 1))) a := by rw [hs2]; exact c2
    have ck2 : CK dep i (upd (upd i 4 (b2i true)) 36 (ii (k0 + 1))) a a := (CK.num i a (by decide)).trans (CK.num _ a (by decide)) (Nat.le_refl _)
    have f2 : ∀ y, y < m ∨ m + 25 ≤ y → s2 y = σ y := fun y hy => by rw [hs2, am_up_ne _ _ (by omega), b3 y hy]
    have go1 : ∀ res, am_to cd_t cs d 149 39 [some (.ref m), some (.int (ii (6 * x + j)))] [.int (ii (D.2.getD j default).1)] s2 top sl res → am_to cd_t cs d 149 0 (am_ent 2 [.ref m, .int (ii (6 * x + j))]) [] σ top sl res := by
      intro res hh
      refine x_n cd_i149_0 rfl rfl ?_
      refine x_n cd_i149_1 rfl rfl ?_
      refine x_ic cd_i149_2 (z := (-1)) rfl ?_
      show am_to cd_t _ _ 149 3 _ _ _ _ _ _
      refine x_icmp_f cd_i149_3 (ii_ne1 (by omega)) ?_
      refine x_ic cd_i149_6 (z := ii 1) rfl ?_
      refine x_n cd_i149_7 rfl rfl ?_
      show am_to cd_t _ _ 149 11 _ _ _ _ _ _
      refine x_callv (as' := [.int (b2i true)]) (r := none) cd_i149_11 hM.1 (by omega) rfl rfl rfl rfl rfl rfl (b1) ?_
      refine x_n cd_i149_14 rfl rfl ?_
      show am_to cd_t _ _ 149 15 _ _ _ _ _ _
      refine x_getf cd_i149_15 b2.1 (congrArg (fun z => some (Value.int z)) (rfl)) rfl ?_
      refine x_if_t cd_i149_18 (fun z => absurd (show (1 : Int32) = 0 from z) (by decide)) ?_
      refine x_n cd_i149_23 rfl rfl ?_
      refine x_n cd_i149_24 rfl rfl ?_
      show am_to cd_t _ _ 149 25 _ _ _ _ _ _
      refine x_getf cd_i149_25 b2.1 (congrArg (fun z => some (Value.int z)) (hk0)) rfl ?_
      refine x_ic cd_i149_28 (z := ii 1) rfl ?_
      refine x_iadd cd_i149_29 (ii_add _ _) ?_
      show am_to cd_t _ _ 149 30 _ _ _ _ _ _
      refine x_putf cd_i149_30 (fs' := mo_f m (upd (upd i 4 (b2i true)) 36 (ii (k0 + 1)))) b2.1 rfl rfl rfl ?_
      refine hs2 ▸ ?_
      refine x_n cd_i149_33 rfl rfl ?_
      refine x_getf cd_i149_34 c2.1 rfl rfl ?_
      refine x_n cd_i149_37 rfl rfl ?_
      show am_to cd_t _ _ 149 38 _ _ _ _ _ _
      refine x_iald cd_i149_38 (c2.2 5 (by decide) (by decide)) (show _ < 66 by omega) (by decide) (h1) ?_
      exact hh
    by_cases e0 : (D.2.getD j default).1 = 0
    · refine ⟨s2, _, a, ii (D.2.getD j default).2.2.2.2.2, go1 _ ?_, c2, ck2, Or.inr (Or.inl ⟨(D.2.getD j default).2.2.2.2.2, p, 1, ht13, hp, fun E => ?_, rfl, rfl, hP, hop, rfl⟩), f2⟩
      · refine x_if_f cd_i149_39 (fun z => z (by rw [e0]; rfl)) ?_
        refine x_n cd_i149_42 rfl rfl ?_
        refine x_getf cd_i149_43 c2.1 rfl rfl ?_
        refine x_n cd_i149_46 rfl rfl ?_
        show am_to cd_t _ _ 149 47 _ _ _ _ _ _
        refine x_iald cd_i149_47 (c2.2 9 (by decide) (by decide)) (show _ < 66 by omega) (by decide) (h5) ?_
        exact x_end cd_i149_48 rfl rfl rfl
      · unfold useP
        dsimp only
        rw [em, if_pos e0]
    · have eu : ∀ E, useP dec txt E (some (x, j)) p = if txt.getD p 0 = 40 then (argsP dec txt E (D.2.getD j default).2.2.2.2.1 true (p + 1)).map (fun S => ((D.2.getD j default).2.2.2.2.2, S.1, 1 + S.2)) else none := by
        intro E
        unfold useP
        dsimp only
        rw [em, if_neg e0]
      obtain ⟨s3, d1, d2, d3⟩ := m_expect (cs := cs) (d := d - 1) (top := top) (sl := sl) (c := 40) (g := true) (p := p) (by omega) c2 (show M_buf (upd (upd i 4 (b2i true)) 36 (ii (k0 + 1))) a txt from hB) hP rfl hT (by omega) (by decide)
      rw [Bool.true_and] at d2
      generalize hi3 : upd (upd (upd (upd i 4 (b2i true)) 36 (ii (k0 + 1))) 3 (ii (if txt.getD p 0 = 40 then p + 1 else p))) 4 (b2i (txt.getD p 0 == 40)) = i3 at d2
      have e3 : i3 3 = ii (if txt.getD p 0 = 40 then p + 1 else p) := by rw [← hi3]; rfl
      have e4 : i3 4 = b2i (txt.getD p 0 == 40) := by rw [← hi3]; rfl
      have e33 : i3 33 = ii dep := by rw [← hi3]; exact hop
      have e36 : i3 36 = ii (k0 + 1) := by rw [← hi3]; rfl
      have ck3 : CK dep i i3 a a := by
        rw [← hi3]
        exact (ck2.trans (CK.num _ a (by decide)) (Nat.le_refl _)).trans (CK.num _ a (by decide)) (Nat.le_refl _)
      have B3 : M_buf i3 a txt := ⟨(ck3.1 2 (by decide)).trans hB.1, hB.2⟩
      have f3 : ∀ y, y < m ∨ m + 25 ≤ y → s3 y = σ y := fun y hy => (d3 y hy).trans (f2 y hy)
      have go2 : ∀ res, am_to cd_t cs d 149 61 [some (.ref m), some (.int (ii (6 * x + j)))] [.int (ii (D.2.getD j default).2.2.2.2.1.length)] s3 top sl res → am_to cd_t cs d 149 0 (am_ent 2 [.ref m, .int (ii (6 * x + j))]) [] σ top sl res := by
        intro res hh
        refine go1 res (x_if_t cd_i149_39 (fun z => e0 ((ii_eq (b := 0) (by omega) (by decide)).mp z)) ?_)
        refine x_n cd_i149_49 rfl rfl ?_
        refine x_bi cd_i149_50 (z := ii 40) (by decide) ?_
        show am_to cd_t _ _ 149 52 _ _ _ _ _ _
        refine x_callv (as' := [.int (ii 40)]) (r := none) cd_i149_52 c2.1 (by omega) rfl rfl rfl rfl rfl rfl (d1) ?_
        refine x_n cd_i149_55 rfl rfl ?_
        refine x_getf cd_i149_56 d2.1 rfl rfl ?_
        refine x_n cd_i149_59 rfl rfl ?_
        show am_to cd_t _ _ 149 60 _ _ _ _ _ _
        refine x_iald cd_i149_60 (d2.2 10 (by decide) (by decide)) (show _ < 66 by omega) (by decide) (h6) ?_
        exact hh
      have hl2 := hok.2.2.2.2.1
      by_cases hnil : (D.2.getD j default).2.2.2.2.1 = []
      · have hz : (D.2.getD j default).2.2.2.2.1.length = 0 := by rw [hnil]; rfl
        rw [hz] at go2
        have hq3 : (if txt.getD p 0 = 40 then p + 1 else p) ≤ txt.length := by
          split
          · next h => exact getD_lt h (by decide)
          · exact hp
        obtain ⟨s4, g1, g2, g3⟩ := m_expect (cs := cs) (d := d - 1) (top := top) (sl := sl) (c := 41) (g := (txt.getD p 0 == 40)) (by omega) d2 B3 e3 e4 hT (by omega) (by decide)
        have ck4 := (ck3.trans (CK.num (x := ii (if txt.getD (if txt.getD p 0 = 40 then p + 1 else p) 0 = 41 then (if txt.getD p 0 = 40 then p + 1 else p) + 1 else (if txt.getD p 0 = 40 then p + 1 else p))) (k := 3) i3 a (by decide)) (Nat.le_refl _)).trans (CK.num (k := 4) (x := b2i ((txt.getD p 0 == 40) && (txt.getD (if txt.getD p 0 = 40 then p + 1 else p) 0 == 41))) _ a (by decide)) (Nat.le_refl _)
        refine ⟨s4, _, a, ii (D.2.getD j default).2.2.2.2.2, go2 _ ?_, g2, ck4, ?_, fun y hy => (g3 y hy).trans (f3 y hy)⟩
        · refine x_if_f cd_i149_61 (fun z => z rfl) ?_
          refine x_n cd_i149_64 rfl rfl ?_
          refine x_bi cd_i149_65 (z := ii 41) (by decide) ?_
          show am_to cd_t _ _ 149 67 _ _ _ _ _ _
          refine x_callv (as' := [.int (ii 41)]) (r := none) cd_i149_67 d2.1 (by omega) rfl rfl rfl rfl rfl rfl (g1) ?_
          refine x_n cd_i149_70 rfl rfl ?_
          refine x_getf cd_i149_71 g2.1 rfl rfl ?_
          refine x_n cd_i149_74 rfl rfl ?_
          show am_to cd_t _ _ 149 75 _ _ _ _ _ _
          refine x_iald cd_i149_75 (g2.2 9 (by decide) (by decide)) (show _ < 66 by omega) (by decide) (h5) ?_
          exact x_end cd_i149_76 rfl rfl rfl
        · by_cases h40 : txt.getD p 0 = 40
          · rw [if_pos h40, beq_iff_eq.mpr h40, Bool.true_and]
            by_cases h41 : txt.getD (p + 1) 0 = 41
            · have hlt := getD_lt h41 (by decide)
              rw [if_pos h41, beq_iff_eq.mpr h41]
              refine Or.inr (Or.inl ⟨(D.2.getD j default).2.2.2.2.2, p + 2, 1, ht13, by omega, fun E => ?_, rfl, rfl, rfl, e33, e36⟩)
              show useP dec txt E (some (x, j)) p = _
              rw [eu, if_pos h40, hnil, argsP, if_pos h41]
              rfl
            · rw [if_neg h41, beq_eq_false_iff_ne.mpr h41]
              refine Or.inl ⟨fun E _ => ?_, rfl⟩
              show useP dec txt E (some (x, j)) p = _
              rw [eu, if_pos h40, hnil, argsP, if_neg h41]
              rfl
          · rw [beq_eq_false_iff_ne.mpr h40, Bool.false_and]
            refine Or.inl ⟨fun E _ => ?_, rfl⟩
            show useP dec txt E (some (x, j)) p = _
            rw [eu, if_neg h40]
      · have hpos : 0 < (D.2.getD j default).2.2.2.2.1.length := List.length_pos_iff.mpr hnil
        obtain ⟨s4, g1, g2, g3⟩ := m_must (cs := cs) (d := d - 1) (top := top) (sl := sl) (s := decide (dep < 6)) (g := (txt.getD p 0 == 40)) d2 e4
        have k5 := g2.sto 23 (by decide) (by decide) (upd (a 23) dep (ii (6 * x + j)))
        have k6 := k5.sto 24 (by decide) (by decide) (upd (a 24) dep (ii 0))
        have k7 := k6.put (upd (upd i3 4 (b2i ((txt.getD p 0 == 40) && decide (dep < 6)))) 33 (ii (dep + 1)))
        have ck7 : CK dep i (upd (upd i3 4 (b2i ((txt.getD p 0 == 40) && decide (dep < 6)))) 33 (ii (dep + 1))) a (updA (updA a 23 (upd (a 23) dep (ii (6 * x + j)))) 24 (upd (a 24) dep (ii 0))) := by
          refine ((ck3.trans (CK.num _ a (by decide)) (Nat.le_refl _)).trans (CK.num _ a (by decide)) (Nat.le_refl _)).trans (i2 := upd (upd i3 4 (b2i ((txt.getD p 0 == 40) && decide (dep < 6)))) 33 (ii (dep + 1))) ⟨fun _ _ => rfl, fun k h23 h24 => by rw [updA_ne h24, updA_ne h23], fun e he => ⟨?_, ?_⟩⟩ (Nat.le_refl dep)
          · rw [updA_ne (by decide), updA_eq, upd_ne (by omega)]
          · rw [updA_eq, upd_ne (by omega)]
        refine ⟨_, _, _, -1, go2 _ ?_, k7, ck7, ?_, fun y hy => by rw [am_up_ne _ _ (by omega), am_up_ne _ _ (by omega), am_up_ne _ _ (by omega), g3 y hy, f3 y hy]⟩
        · refine x_if_t cd_i149_61 (fun z => by have := (ii_eq (b := 0) (by omega) (by decide)).mp (show ii (D.2.getD j default).2.2.2.2.1.length = ii 0 from z); omega) ?_
          have mid : am_to cd_t cs d 149 92 [some (.ref m), some (.int (ii (6 * x + j)))] [.int (b2i (decide (dep < 6))), .ref m] s3 top sl (.inl (some (.int (-1))), am_up (am_up (am_up s4 (m + 23) (.inl (mo_ty 23, mo_sz 23, .inl (upd (a 23) dep (ii (6 * x + j)))))) (m + 24) (.inl (mo_ty 24, mo_sz 24, .inl (upd (a 24) dep (ii 0))))) m (.inr (.inl (11, mo_f m (upd (upd i3 4 (b2i ((txt.getD p 0 == 40) && decide (dep < 6)))) 33 (ii (dep + 1)))))), top, sl) := by
            refine x_callv (as' := [.int (b2i (decide (dep < 6)))]) (r := none) cd_i149_92 d2.1 (by omega) rfl rfl rfl rfl rfl rfl (g1) ?_
            refine x_n cd_i149_95 rfl rfl ?_
            refine x_getf cd_i149_96 g2.1 rfl rfl ?_
            refine x_n cd_i149_99 rfl rfl ?_
            show am_to cd_t _ _ 149 100 _ _ _ _ _ _
            refine x_getf cd_i149_100 g2.1 (congrArg (fun z => some (Value.int z)) (e33)) rfl ?_
            refine x_n cd_i149_103 rfl rfl ?_
            show am_to cd_t _ _ 149 104 _ _ _ _ _ _
            refine x_iastore cd_i149_104 (g2.2 23 (by decide) (by decide)) (show _ < 130 by omega) (by decide) ?_
            refine x_n cd_i149_105 rfl rfl ?_
            refine x_getf cd_i149_106 k5.1 rfl rfl ?_
            refine x_n cd_i149_109 rfl rfl ?_
            show am_to cd_t _ _ 149 110 _ _ _ _ _ _
            refine x_getf cd_i149_110 k5.1 (congrArg (fun z => some (Value.int z)) (e33)) rfl ?_
            refine x_ic cd_i149_113 (z := ii 0) rfl ?_
            show am_to cd_t _ _ 149 114 _ _ _ _ _ _
            refine x_iastore cd_i149_114 (k5.2 24 (by decide) (by decide)) (show _ < 130 by omega) (by decide) ?_
            refine x_n cd_i149_115 rfl rfl ?_
            refine x_n cd_i149_116 rfl rfl ?_
            show am_to cd_t _ _ 149 117 _ _ _ _ _ _
            refine x_getf cd_i149_117 k6.1 (congrArg (fun z => some (Value.int z)) (e33)) rfl ?_
            refine x_ic cd_i149_120 (z := ii 1) rfl ?_
            refine x_iadd cd_i149_121 (ii_add _ _) ?_
            show am_to cd_t _ _ 149 122 _ _ _ _ _ _
            refine x_putf cd_i149_122 (fs' := mo_f m (upd (upd i3 4 (b2i ((txt.getD p 0 == 40) && decide (dep < 6)))) 33 (ii (dep + 1)))) k6.1 rfl rfl rfl ?_
            refine x_ic cd_i149_125 (z := (-1)) rfl ?_
            show am_to cd_t _ _ 149 126 _ _ _ _ _ _
            exact x_end cd_i149_126 rfl rfl rfl
          refine x_n cd_i149_77 rfl rfl ?_
          refine x_n cd_i149_78 rfl rfl ?_
          show am_to cd_t _ _ 149 79 _ _ _ _ _ _
          refine x_getf cd_i149_79 d2.1 (congrArg (fun z => some (Value.int z)) (e33)) rfl ?_
          refine x_bi cd_i149_82 (z := ii 6) (by decide) ?_
          show am_to cd_t _ _ 149 84 _ _ _ _ _ _
          by_cases h6 : dep < 6
          · rw [decide_eq_true h6] at mid ⊢
            refine x_icmp_f cd_i149_84 (fun z => by have := (ii_le (by decide) (by omega)).mp (show ii 6 ≤ ii dep from z); omega) ?_
            refine x_ic cd_i149_87 (z := ii 1) rfl ?_
            refine x_n cd_i149_88 rfl rfl ?_
            show am_to cd_t _ _ 149 92 _ _ _ _ _ _
            exact mid
          · rw [decide_eq_false h6] at mid ⊢
            refine x_icmp_t cd_i149_84 ((ii_le (by decide) (by omega)).mpr (by omega)) ?_
            refine x_ic cd_i149_91 (z := ii 0) rfl ?_
            show am_to cd_t _ _ 149 92 _ _ _ _ _ _
            exact mid
        · by_cases h40 : txt.getD p 0 = 40
          · have hlt := getD_lt h40 (by decide)
            by_cases h6 : dep < 6
            · rw [beq_iff_eq.mpr h40, decide_eq_true h6]
              refine Or.inr (Or.inr ⟨x, j, D, p + 1, hD, hj, hnil, h6, by omega, fun E => ?_, rfl, rfl, ?_, rfl, e36, ?_, ?_⟩)
              · show useP dec txt E (some (x, j)) p = _
                rw [eu, if_pos h40]
              · show i3 3 = _
                rw [e3, if_pos h40]
              · rw [updA_ne (by decide), updA_eq, upd_eq]
              · rw [updA_eq, upd_eq]
            · rw [decide_eq_false h6, Bool.and_false]
              refine Or.inl ⟨fun E hE => ?_, rfl⟩
              show useP dec txt E (some (x, j)) p = _
              rw [eu, if_pos h40]
              cases hps : (D.2.getD j default).2.2.2.2.1 with
              | nil => exact absurd hps hnil
              | cons w ts =>
                rw [argsP, if_pos (Or.inl rfl), if_pos rfl, hE (by omega)]
                rfl
          · rw [beq_eq_false_iff_ne.mpr h40, Bool.false_and]
            refine Or.inl ⟨fun E _ => ?_, rfl⟩
            show useP dec txt E (some (x, j)) p = _
            rw [eu, if_neg h40]
end RU
