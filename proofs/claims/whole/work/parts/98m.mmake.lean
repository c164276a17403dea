section MK2
variable {cs : Nat → Value} {d m top sl : Nat}
theorem m_costOf {σ : am_H} {i : Nat → Int32} {a : Nat → Nat → Int32} {O : List Ent} {o : Option Nat} (hM : mo σ m i a) (hO : ∀ e, e < O.length → krow a e (O.getD e default)) (hl : O.length ≤ 32) (ho : ∀ e, o = some e → e < O.length) :
    am_to cd_t cs d 140 0 (am_ent 2 [.ref m, .int (oi o)]) [] σ top sl (.inl (some (.int (ii (recC (o.map fun e => O.getD e default))))), σ, top, sl) := by
  cases o with
  | none =>
    refine x_n cd_i140_0 rfl rfl ?_
    refine x_ic cd_i140_1 (z := (-1)) rfl ?_
    show am_to cd_t _ _ 140 2 _ _ _ _ _ _
    refine x_icmp_f cd_i140_2 (fun z => z rfl) ?_
    refine x_ic cd_i140_5 (z := ii 0) rfl ?_
    refine x_n cd_i140_6 rfl rfl ?_
    show am_to cd_t _ _ 140 15 _ _ _ _ _ _
    exact x_end cd_i140_15 rfl rfl rfl
  | some e =>
    have he := ho e rfl
    refine x_n cd_i140_0 rfl rfl ?_
    refine x_ic cd_i140_1 (z := (-1)) rfl ?_
    show am_to cd_t _ _ 140 2 _ _ _ _ _ _
    refine x_icmp_t cd_i140_2 (ii_ne1 (show e < 2147483648 by omega)) ?_
    refine x_n cd_i140_9 rfl rfl ?_
    refine x_getf cd_i140_10 hM.1 rfl rfl ?_
    show am_to cd_t _ _ 140 13 _ _ _ _ _ _
    refine x_n cd_i140_13 rfl rfl ?_
    refine x_iald cd_i140_14 (hM.2 14 (by decide) (by decide)) (show e < 33 by omega) (by decide) (hO e he).1 ?_
    exact x_end cd_i140_15 rfl rfl rfl
/-- one more letter or text: what is made so far -/
theorem mk.len {i : Nat → Int32} {a : Nat → Nat → Int32} {w : List Nat} (h : mk i a w) : w.length ≤ 150 := h.2.1
theorem m_make {σ : am_H} {i : Nat → Int32} {a : Nat → Nat → Int32} {O : List Ent} {x j : Nat} {M : Mem} {r u v : Option Nat} (hd : 1 < d) (hM : mo σ m i a) (hR : M_mem a (6 * x + j) M) (hx : x < 10) (hj : j < 6) (hm : memOk M) (hl : O.length ≤ 32) (hO : ∀ e, e < O.length → krow a e (O.getD e default)) (hr : ∀ e, r = some e → e < O.length ∧ M.1 ≠ 2) (hu : ∀ e, u = some e → e < O.length) (hv : ∀ e, v = some e → e < O.length ∧ u ≠ none) :
    ∃ (σ' : am_H) (i' : Nat → Int32) (a' : Nat → Nat → Int32), am_to cd_t cs d 141 0 (am_ent 5 [.ref m, .int (ii (6 * x + j)), .int (oi r), .int (oi u), .int (oi v)]) [] σ top sl (.inl none, σ', top, sl) ∧ mo σ' m i' a' ∧ mk i' a' (preT M (x, j) (r.map fun e => O.getD e default) ++ tailT M ((u.toList ++ v.toList).map fun e => O.getD e default)) ∧ WR i i' a a' ∧ ∀ y, y < m ∨ m + 25 ≤ y → σ' y = σ y := by
  have mk0 := hm.1
  have keepR : ∀ {i' : Nat → Int32} {a' : Nat → Nat → Int32}, WR i i' a a' → M_mem a' (6 * x + j) M ∧ ∀ e, e < O.length → krow a' e (O.getD e default) := by
    intro i' a' hW
    refine ⟨?_, fun e he => ?_⟩
    · unfold M_mem
      rw [hW.2 5 (by decide), hW.2 6 (by decide), hW.2 7 (by decide), hW.2 8 (by decide), hW.2 9 (by decide), hW.2 10 (by decide), hW.2 11 (by decide)]
      exact hR
    · unfold krow
      rw [hW.2 14 (by decide), hW.2 15 (by decide), hW.2 16 (by decide), hW.2 17 (by decide)]
      exact hO e he
  have hr1 : (6 * x + j) < 66 := by omega
  have h1 := hM.put (upd i 25 (ii 0))
  obtain ⟨s1, hs1⟩ : ∃ z, z = am_up σ m (.inr (.inl (11, mo_f m (upd i 25 (ii 0))))) := ⟨_, rfl⟩
  rw [← hs1] at h1
  have f1 : ∀ y, y < m ∨ m + 25 ≤ y → s1 y = σ y := fun y hy => by rw [hs1, am_up_ne _ _ (by omega)]
  have W1 : WR i (upd i 25 (ii 0)) a a := ⟨fun q hq => upd_ne hq, fun _ _ => rfl⟩
  have K1 : mk (upd i 25 (ii 0)) a [] := ⟨upd_eq, by decide, fun k hk => absurd hk (Nat.not_lt_zero k)⟩
  have A : ∃ (s2 : am_H) (i2 : Nat → Int32) (a2 : Nat → Nat → Int32), mo s2 m i2 a2 ∧ mk i2 a2 (if M.1 = 2 then wNewS else []) ∧ WR i i2 a a2 ∧ (∀ y, y < m ∨ m + 25 ≤ y → s2 y = σ y) ∧ ∀ res, am_to cd_t cs d 141 39 [some (.ref m), some (.int (ii (6 * x + j))), some (.int (oi r)), some (.int (oi u)), some (.int (oi v))] [] s2 top sl res → am_to cd_t cs d 141 0 (am_ent 5 [.ref m, .int (ii (6 * x + j)), .int (oi r), .int (oi u), .int (oi v)]) [] σ top sl res := by
    by_cases e2 : M.1 = 2
    · obtain ⟨t1, j1, b1, p1, p2, p3, p4, p5⟩ := m_write (cs := cs) (d := d - 1) (top := top) (sl := sl) (c := 110) h1 K1 (by decide) (by decide)
      obtain ⟨t2, j2, b2, q1, q2, q3, q4, q5⟩ := m_write (cs := cs) (d := d - 1) (top := top) (sl := sl) (c := 101) p2 p3 (by decide) (by decide)
      obtain ⟨t3, j3, b3, g1, g2, g3, g4, g5⟩ := m_write (cs := cs) (d := d - 1) (top := top) (sl := sl) (c := 119) q2 q3 (by decide) (by decide)
      obtain ⟨t4, j4, b4, k1, k2, k3, k4, k5⟩ := m_write (cs := cs) (d := d - 1) (top := top) (sl := sl) (c := 32) g2 g3 (by decide) (by decide)
      refine ⟨t4, j4, b4, k2, by rw [if_pos e2]; exact k3, (((W1.trans p4).trans q4).trans g4).trans k4, fun y hy => (k5 y hy).trans ((g5 y hy).trans ((q5 y hy).trans ((p5 y hy).trans (f1 y hy)))), fun res hh => ?_⟩
      refine x_n cd_i141_0 rfl rfl ?_
      refine x_ic cd_i141_1 (z := ii 0) rfl ?_
      show am_to cd_t _ _ 141 2 _ _ _ _ _ _
      refine x_putf cd_i141_2 (fs' := mo_f m (upd i 25 (ii 0))) hM.1 rfl rfl rfl ?_
      refine hs1 ▸ ?_
      refine x_n cd_i141_5 rfl rfl ?_
      refine x_getf cd_i141_6 h1.1 rfl rfl ?_
      refine x_n cd_i141_9 rfl rfl ?_
      show am_to cd_t _ _ 141 10 _ _ _ _ _ _
      refine x_iald cd_i141_10 (h1.2 5 (by decide) (by decide)) (show _ < 66 by omega) (by decide) (hR.1) ?_
      refine x_ic cd_i141_11 (z := ii 2) rfl ?_
      show am_to cd_t _ _ 141 12 _ _ _ _ _ _
      refine x_icmp_f cd_i141_12 (fun z => z (by rw [e2])) ?_
      refine x_n cd_i141_15 rfl rfl ?_
      refine x_bi cd_i141_16 (z := ii 110) (by decide) ?_
      show am_to cd_t _ _ 141 18 _ _ _ _ _ _
      refine x_callv (as' := [.int (ii 110)]) (r := none) cd_i141_18 h1.1 (by omega) rfl rfl rfl rfl rfl rfl (p1) ?_
      refine x_n cd_i141_21 rfl rfl ?_
      refine x_bi cd_i141_22 (z := ii 101) (by decide) ?_
      show am_to cd_t _ _ 141 24 _ _ _ _ _ _
      refine x_callv (as' := [.int (ii 101)]) (r := none) cd_i141_24 p2.1 (by omega) rfl rfl rfl rfl rfl rfl (q1) ?_
      refine x_n cd_i141_27 rfl rfl ?_
      refine x_bi cd_i141_28 (z := ii 119) (by decide) ?_
      show am_to cd_t _ _ 141 30 _ _ _ _ _ _
      refine x_callv (as' := [.int (ii 119)]) (r := none) cd_i141_30 q2.1 (by omega) rfl rfl rfl rfl rfl rfl (g1) ?_
      refine x_n cd_i141_33 rfl rfl ?_
      refine x_bi cd_i141_34 (z := ii 32) (by decide) ?_
      show am_to cd_t _ _ 141 36 _ _ _ _ _ _
      refine x_callv (as' := [.int (ii 32)]) (r := none) cd_i141_36 g2.1 (by omega) rfl rfl rfl rfl rfl rfl (k1) ?_
      exact hh
    · refine ⟨s1, _, a, h1, by rw [if_neg e2]; exact K1, W1, f1, fun res hh => ?_⟩
      refine x_n cd_i141_0 rfl rfl ?_
      refine x_ic cd_i141_1 (z := ii 0) rfl ?_
      show am_to cd_t _ _ 141 2 _ _ _ _ _ _
      refine x_putf cd_i141_2 (fs' := mo_f m (upd i 25 (ii 0))) hM.1 rfl rfl rfl ?_
      refine hs1 ▸ ?_
      refine x_n cd_i141_5 rfl rfl ?_
      refine x_getf cd_i141_6 h1.1 rfl rfl ?_
      refine x_n cd_i141_9 rfl rfl ?_
      show am_to cd_t _ _ 141 10 _ _ _ _ _ _
      refine x_iald cd_i141_10 (h1.2 5 (by decide) (by decide)) (show _ < 66 by omega) (by decide) (hR.1) ?_
      refine x_ic cd_i141_11 (z := ii 2) rfl ?_
      show am_to cd_t _ _ 141 12 _ _ _ _ _ _
      exact x_icmp_t cd_i141_12 (fun z => e2 ((ii_eq (by omega) (by decide)).mp z)) hh
  obtain ⟨s2, i2, a2, A1, A2, A3, A4, A5⟩ := A
  obtain ⟨R2, O2⟩ := keepR A3
  have l2 : (if M.1 = 2 then wNewS else ([] : List Nat)).length ≤ 4 := by split <;> decide
  have B : ∃ (s3 : am_H) (i3 : Nat → Int32) (a3 : Nat → Nat → Int32), mo s3 m i3 a3 ∧ mk i3 a3 ((if M.1 = 2 then wNewS else []) ++ frontT (x, j) (r.map fun e => O.getD e default)) ∧ WR i i3 a a3 ∧ (∀ y, y < m ∨ m + 25 ≤ y → s3 y = σ y) ∧ (frontT (x, j) (r.map fun e => O.getD e default)).length ≤ 24 ∧ ∀ res, am_to cd_t cs d 141 64 [some (.ref m), some (.int (ii (6 * x + j))), some (.int (oi r)), some (.int (oi u)), some (.int (oi v))] [] s3 top sl res → am_to cd_t cs d 141 0 (am_ent 5 [.ref m, .int (ii (6 * x + j)), .int (oi r), .int (oi u), .int (oi v)]) [] σ top sl res := by
    cases r with
    | none =>
      obtain ⟨t1, j1, b1, p1, p2, p3, p4, p5⟩ := m_write (cs := cs) (d := d - 1) (top := top) (sl := sl) (c := 65 + x) A1 A2 (by omega) (by omega)
      refine ⟨t1, j1, b1, p2, p3, A3.trans p4, fun y hy => (p5 y hy).trans (A4 y hy), by show 1 ≤ 24; decide, fun res hh => A5 res ?_⟩
      refine x_n cd_i141_39 rfl rfl ?_
      refine x_ic cd_i141_40 (z := (-1)) rfl ?_
      show am_to cd_t _ _ 141 41 _ _ _ _ _ _
      refine x_icmp_f cd_i141_41 (fun z => z rfl) ?_
      refine x_n cd_i141_44 rfl rfl ?_
      refine x_bi cd_i141_45 (z := ii 65) (by decide) ?_
      refine x_n cd_i141_47 rfl rfl ?_
      refine x_bi cd_i141_48 (z := ii 6) (by decide) ?_
      show am_to cd_t _ _ 141 50 _ _ _ _ _ _
      refine x_idiv cd_i141_50 (fun z => absurd (show ii 6 = 0 from z) (by decide)) (div6 (by omega) hj) ?_
      refine x_iadd cd_i141_51 (ii_add _ _) ?_
      refine x_i2c cd_i141_52 (by omega) ?_
      refine x_callv (as' := [.int (ii (65 + x))]) (r := none) cd_i141_53 A1.1 (by omega) rfl rfl rfl rfl rfl rfl (p1) ?_
      refine x_n cd_i141_56 rfl rfl ?_
      show am_to cd_t _ _ 141 64 _ _ _ _ _ _
      exact hh
    | some e =>
      obtain ⟨he, -⟩ := hr e rfl
      obtain ⟨t1, j1, b1, p1, p2, p3, p4, p5⟩ := m_writeKept (cs := cs) (d := d - 1) (top := top) (sl := sl) (e := e) (by omega) A1 A2 (by omega) (O2 e he) (by omega)
      refine ⟨t1, j1, b1, p2, p3, A3.trans p4, fun y hy => (p5 y hy).trans (A4 y hy), (O2 e he).2.2.2.1, fun res hh => A5 res ?_⟩
      refine x_n cd_i141_39 rfl rfl ?_
      refine x_ic cd_i141_40 (z := (-1)) rfl ?_
      show am_to cd_t _ _ 141 41 _ _ _ _ _ _
      refine x_icmp_t cd_i141_41 (ii_ne1 (show e < 2147483648 by omega)) ?_
      refine x_n cd_i141_59 rfl rfl ?_
      refine x_n cd_i141_60 rfl rfl ?_
      show am_to cd_t _ _ 141 61 _ _ _ _ _ _
      refine x_callv (as' := [.int (ii e)]) (r := none) cd_i141_61 A1.1 (by omega) rfl rfl rfl rfl rfl rfl (p1) ?_
      exact hh
  obtain ⟨s3, i3, a3, B1, B2, B3, B4, B5, B6⟩ := B
  obtain ⟨R3, O3⟩ := keepR B3
  have C : ∃ (s4 : am_H) (i4 : Nat → Int32) (a4 : Nat → Nat → Int32), mo s4 m i4 a4 ∧ mk i4 a4 (preT M (x, j) (r.map fun e => O.getD e default)) ∧ WR i i4 a a4 ∧ (∀ y, y < m ∨ m + 25 ≤ y → s4 y = σ y) ∧ (preT M (x, j) (r.map fun e => O.getD e default)).length ≤ 40 ∧ ∀ res, am_to cd_t cs d 141 90 [some (.ref m), some (.int (ii (6 * x + j))), some (.int (oi r)), some (.int (oi u)), some (.int (oi v))] [] s4 top sl res → am_to cd_t cs d 141 0 (am_ent 5 [.ref m, .int (ii (6 * x + j)), .int (oi r), .int (oi u), .int (oi v)]) [] σ top sl res := by
    by_cases e2 : M.1 = 2
    · have er : r = none := by
        cases hr0 : r with
        | none => rfl
        | some e => exact absurd e2 (hr e hr0).2
      have ep : preT M (x, j) (r.map fun e => O.getD e default) = (if M.1 = 2 then wNewS else []) ++ frontT (x, j) (r.map fun e => O.getD e default) := by
        unfold preT
        rw [if_pos e2, if_pos e2, er]
        rfl
      rw [ep]
      refine ⟨s3, i3, a3, B1, B2, B3, B4, by rw [List.length_append]; omega, fun res hh => B6 res ?_⟩
      refine x_n cd_i141_64 rfl rfl ?_
      refine x_getf cd_i141_65 B1.1 rfl rfl ?_
      refine x_n cd_i141_68 rfl rfl ?_
      show am_to cd_t _ _ 141 69 _ _ _ _ _ _
      refine x_iald cd_i141_69 (B1.2 5 (by decide) (by decide)) (show _ < 66 by omega) (by decide) (R3.1) ?_
      refine x_ic cd_i141_70 (z := ii 2) rfl ?_
      show am_to cd_t _ _ 141 71 _ _ _ _ _ _
      exact x_icmp_t cd_i141_71 (by rw [e2]; exact rfl) hh
    · rw [if_neg e2, List.nil_append] at B2
      have hname := hm.2.2.2.1 e2
      obtain ⟨t1, j1, b1, p1, p2, p3, p4, p5⟩ := m_write (cs := cs) (d := d - 1) (top := top) (sl := sl) (c := 46) B1 B2 (by omega) (by decide)
      obtain ⟨t2, j2, b2, q1, q2, q3, q4, q5⟩ := m_writeName (cs := cs) (d := d - 1) (top := top) (sl := sl) (v := M.2.2.2.1) (by omega) p2 p3 (by rw [List.length_append]; show _ + 1 ≤ 120; omega) hm.2.1.1 hname hm.2.1.2
      have ep : preT M (x, j) (r.map fun e => O.getD e default) = frontT (x, j) (r.map fun e => O.getD e default) ++ [46] ++ M.2.2.2.1 := by
        unfold preT
        rw [if_neg e2, List.append_assoc]
        rfl
      obtain ⟨R4, -⟩ := keepR (B3.trans p4)
      rw [ep]
      refine ⟨t2, j2, b2, q2, q3, (B3.trans p4).trans q4, fun y hy => (q5 y hy).trans ((p5 y hy).trans (B4 y hy)), by rw [List.length_append, List.length_append]; have := hm.2.1.2; show _ + 1 + _ ≤ 40; omega, fun res hh => B6 res ?_⟩
      refine x_n cd_i141_64 rfl rfl ?_
      refine x_getf cd_i141_65 B1.1 rfl rfl ?_
      refine x_n cd_i141_68 rfl rfl ?_
      show am_to cd_t _ _ 141 69 _ _ _ _ _ _
      refine x_iald cd_i141_69 (B1.2 5 (by decide) (by decide)) (show _ < 66 by omega) (by decide) (R3.1) ?_
      refine x_ic cd_i141_70 (z := ii 2) rfl ?_
      show am_to cd_t _ _ 141 71 _ _ _ _ _ _
      refine x_icmp_f cd_i141_71 (fun z => e2 ((ii_eq (by omega) (by decide)).mp z)) ?_
      refine x_n cd_i141_74 rfl rfl ?_
      refine x_bi cd_i141_75 (z := ii 46) (by decide) ?_
      show am_to cd_t _ _ 141 77 _ _ _ _ _ _
      refine x_callv (as' := [.int (ii 46)]) (r := none) cd_i141_77 B1.1 (by omega) rfl rfl rfl rfl rfl rfl (p1) ?_
      refine x_n cd_i141_80 rfl rfl ?_
      refine x_n cd_i141_81 rfl rfl ?_
      refine x_getf cd_i141_82 p2.1 rfl rfl ?_
      refine x_n cd_i141_85 rfl rfl ?_
      show am_to cd_t _ _ 141 86 _ _ _ _ _ _
      refine x_iald cd_i141_86 (p2.2 8 (by decide) (by decide)) (show _ < 66 by omega) (by decide) (R4.2.2.2.1) ?_
      refine x_callv (as' := [.int (ii (n27 M.2.2.2.1))]) (r := none) cd_i141_87 p2.1 (by omega) rfl rfl rfl rfl rfl rfl (q1) ?_
      exact hh
  obtain ⟨s4, i4, a4, C1, C2, C3, C4, C5, C6⟩ := C
  obtain ⟨R4, O4⟩ := keepR C3
  generalize preT M (x, j) (r.map fun e => O.getD e default) = P at C2 C5
  unfold tailT
  by_cases e0 : M.1 = 0
  · rw [if_pos e0, List.append_nil]
    refine ⟨s4, i4, a4, C6 _ ?_, C1, C2, C3, C4⟩
    refine x_n cd_i141_90 rfl rfl ?_
    refine x_getf cd_i141_91 C1.1 rfl rfl ?_
    refine x_n cd_i141_94 rfl rfl ?_
    show am_to cd_t _ _ 141 95 _ _ _ _ _ _
    refine x_iald cd_i141_95 (C1.2 5 (by decide) (by decide)) (show _ < 66 by omega) (by decide) (R4.1) ?_
    refine x_if_f cd_i141_96 (fun z => z (by rw [e0]; rfl)) ?_
    exact x_end cd_i141_99 rfl rfl rfl
  · rw [if_neg e0]
    obtain ⟨t1, j1, b1, p1, p2, p3, p4, p5⟩ := m_write (cs := cs) (d := d - 1) (top := top) (sl := sl) (c := 40) C1 C2 (by omega) (by decide)
    obtain ⟨R5, O5⟩ := keepR (C3.trans p4)
    have lp : (P ++ [40]).length ≤ 41 := by rw [List.length_append]; show _ + 1 ≤ 41; omega
    have go1 : ∀ res, am_to cd_t cs d 141 106 [some (.ref m), some (.int (ii (6 * x + j))), some (.int (oi r)), some (.int (oi u)), some (.int (oi v))] [] t1 top sl res → am_to cd_t cs d 141 0 (am_ent 5 [.ref m, .int (ii (6 * x + j)), .int (oi r), .int (oi u), .int (oi v)]) [] σ top sl res := by
      intro res hh
      refine C6 res ?_
      refine x_n cd_i141_90 rfl rfl ?_
      refine x_getf cd_i141_91 C1.1 rfl rfl ?_
      refine x_n cd_i141_94 rfl rfl ?_
      show am_to cd_t _ _ 141 95 _ _ _ _ _ _
      refine x_iald cd_i141_95 (C1.2 5 (by decide) (by decide)) (show _ < 66 by omega) (by decide) (R4.1) ?_
      refine x_if_t cd_i141_96 (fun z => e0 ((ii_eq (b := 0) (by omega) (by decide)).mp z)) ?_
      refine x_n cd_i141_100 rfl rfl ?_
      refine x_bi cd_i141_101 (z := ii 40) (by decide) ?_
      show am_to cd_t _ _ 141 103 _ _ _ _ _ _
      refine x_callv (as' := [.int (ii 40)]) (r := none) cd_i141_103 C1.1 (by omega) rfl rfl rfl rfl rfl rfl (p1) ?_
      exact hh
    have fin : ∀ (s : am_H) (i' : Nat → Int32) (a' : Nat → Nat → Int32) (A : List Nat), mo s m i' a' → mk i' a' (P ++ [40] ++ A) → A.length ≤ 60 → WR i i' a a' → (∀ y, y < m ∨ m + 25 ≤ y → s y = σ y) → (∀ res, am_to cd_t cs d 141 134 [some (.ref m), some (.int (ii (6 * x + j))), some (.int (oi r)), some (.int (oi u)), some (.int (oi v))] [] s top sl res → am_to cd_t cs d 141 0 (am_ent 5 [.ref m, .int (ii (6 * x + j)), .int (oi r), .int (oi u), .int (oi v)]) [] σ top sl res) →
        ∃ (σ' : am_H) (i' : Nat → Int32) (a' : Nat → Nat → Int32), am_to cd_t cs d 141 0 (am_ent 5 [.ref m, .int (ii (6 * x + j)), .int (oi r), .int (oi u), .int (oi v)]) [] σ top sl (.inl none, σ', top, sl) ∧ mo σ' m i' a' ∧ mk i' a' (P ++ (40 :: A ++ [41])) ∧ WR i i' a a' ∧ ∀ y, y < m ∨ m + 25 ≤ y → σ' y = σ y := by
      intro s i' a' A t1 t2 t3 t4 t5 t6
      obtain ⟨s9, i9, a9, q1, q2, q3, q4, q5⟩ := m_write (cs := cs) (d := d - 1) (top := top) (sl := sl) (c := 41) t1 t2 (by rw [List.length_append]; omega) (by decide)
      have e9 : P ++ [40] ++ A ++ [41] = P ++ (40 :: A ++ [41]) := by
        rw [List.append_assoc, List.append_assoc]
        rfl
      rw [e9] at q3
      refine ⟨s9, i9, a9, t6 _ ?_, q2, q3, t4.trans q4, fun y hy => (q5 y hy).trans (t5 y hy)⟩
      refine x_n cd_i141_134 rfl rfl ?_
      refine x_bi cd_i141_135 (z := ii 41) (by decide) ?_
      show am_to cd_t _ _ 141 137 _ _ _ _ _ _
      refine x_callv (as' := [.int (ii 41)]) (r := none) cd_i141_137 t1.1 (by omega) rfl rfl rfl rfl rfl rfl (q1) ?_
      exact x_end cd_i141_140 rfl rfl rfl
    cases u with
    | none =>
      have ev : v = none := by
        cases hv0 : v with
        | none => rfl
        | some e => exact absurd rfl (hv e hv0).2
      subst ev
      refine fin t1 j1 b1 [] p2 (by rw [List.append_nil]; exact p3) (by decide) (C3.trans p4) (fun y hy => (p5 y hy).trans (C4 y hy)) (fun res hh => go1 res ?_)
      refine x_n cd_i141_106 rfl rfl ?_
      refine x_ic cd_i141_107 (z := (-1)) rfl ?_
      show am_to cd_t _ _ 141 108 _ _ _ _ _ _
      refine x_icmp_t cd_i141_108 rfl ?_
      refine x_n cd_i141_116 rfl rfl ?_
      refine x_ic cd_i141_118 (z := (-1)) rfl ?_
      show am_to cd_t _ _ 141 119 _ _ _ _ _ _
      exact x_icmp_t cd_i141_119 rfl hh
    | some e =>
      have he := hu e rfl
      obtain ⟨t2, j2, b2, q1, q2, q3, q4, q5⟩ := m_writeKept (cs := cs) (d := d - 1) (top := top) (sl := sl) (e := e) (by omega) p2 p3 (by omega) (O5 e he) (by omega)
      have hl5 := (O5 e he).2.2.2.1
      have W2 := (C3.trans p4).trans q4
      obtain ⟨R6, O6⟩ := keepR W2
      have f2 : ∀ y, y < m ∨ m + 25 ≤ y → t2 y = σ y := fun y hy => (q5 y hy).trans ((p5 y hy).trans (C4 y hy))
      have go2 : ∀ res, am_to cd_t cs d 141 119 [some (.ref m), some (.int (ii (6 * x + j))), some (.int (oi r)), some (.int (oi (some e))), some (.int (oi v))] [.int (-1), .int (oi v)] t2 top sl res → am_to cd_t cs d 141 0 (am_ent 5 [.ref m, .int (ii (6 * x + j)), .int (oi r), .int (oi (some e)), .int (oi v)]) [] σ top sl res := by
        intro res hh
        refine go1 res ?_
        refine x_n cd_i141_106 rfl rfl ?_
        refine x_ic cd_i141_107 (z := (-1)) rfl ?_
        show am_to cd_t _ _ 141 108 _ _ _ _ _ _
        refine x_icmp_f cd_i141_108 (ii_ne1 (show e < 2147483648 by omega)) ?_
        refine x_n cd_i141_111 rfl rfl ?_
        refine x_n cd_i141_112 rfl rfl ?_
        show am_to cd_t _ _ 141 113 _ _ _ _ _ _
        refine x_callv (as' := [.int (ii e)]) (r := none) cd_i141_113 p2.1 (by omega) rfl rfl rfl rfl rfl rfl (q1) ?_
        refine x_n cd_i141_116 rfl rfl ?_
        refine x_ic cd_i141_118 (z := (-1)) rfl ?_
        show am_to cd_t _ _ 141 119 _ _ _ _ _ _
        exact hh
      cases v with
      | none => exact fin t2 j2 b2 (O.getD e default).1 q2 q3 (by omega) W2 f2 (fun res hh => go2 res (x_icmp_t cd_i141_119 rfl hh))
      | some e' =>
        obtain ⟨he', -⟩ := hv e' rfl
        obtain ⟨t3, j3, b3, g1, g2, g3, g4, g5⟩ := m_write (cs := cs) (d := d - 1) (top := top) (sl := sl) (c := 44) q2 q3 (by rw [List.length_append]; omega) (by decide)
        obtain ⟨R7, O7⟩ := keepR (W2.trans g4)
        obtain ⟨t4, j4, b4, k1, k2, k3, k4, k5⟩ := m_writeKept (cs := cs) (d := d - 1) (top := top) (sl := sl) (e := e') (by omega) g2 g3 (by omega) (O7 e' he') (by rw [List.length_append, List.length_append]; show _ + _ + 1 ≤ 120; omega)
        have hl7 := (O7 e' he').2.2.2.1
        have eA : P ++ [40] ++ (O.getD e default).1 ++ [44] ++ (O.getD e' default).1 = P ++ [40] ++ ((O.getD e default).1 ++ 44 :: (O.getD e' default).1) := by
          rw [List.append_assoc, List.append_assoc]
          rfl
        rw [eA] at k3
        refine fin t4 j4 b4 ((O.getD e default).1 ++ 44 :: (O.getD e' default).1) k2 k3 (by rw [List.length_append, List.length_cons]; omega) ((W2.trans g4).trans k4) (fun y hy => (k5 y hy).trans ((g5 y hy).trans (f2 y hy))) (fun res hh => go2 res (x_icmp_f cd_i141_119 (ii_ne1 (show e' < 2147483648 by omega)) ?_))
        refine x_n cd_i141_122 rfl rfl ?_
        refine x_bi cd_i141_123 (z := ii 44) (by decide) ?_
        show am_to cd_t _ _ 141 125 _ _ _ _ _ _
        refine x_callv (as' := [.int (ii 44)]) (r := none) cd_i141_125 q2.1 (by omega) rfl rfl rfl rfl rfl rfl (g1) ?_
        refine x_n cd_i141_128 rfl rfl ?_
        refine x_n cd_i141_129 rfl rfl ?_
        show am_to cd_t _ _ 141 131 _ _ _ _ _ _
        refine x_callv (as' := [.int (ii e')]) (r := none) cd_i141_131 g2.1 (by omega) rfl rfl rfl rfl rfl rfl (k1) ?_
        exact hh
end MK2
