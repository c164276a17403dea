section KQ
variable {cs : Nat → Value} {d m top sl : Nat} {O L : List Ent} {w : List Nat} {t : Nat}
theorem app_getD {O L : List Ent} {p : Nat} : (O ++ L).getD (O.length + p) default = L.getD p default := by
  rw [List.getD_eq_getElem?_getD, List.getD_eq_getElem?_getD, List.getElem?_append_right (by omega), Nat.add_sub_cancel_left]
/-- the place of a new text -/
theorem m_keep_place {σ : am_H} {i : Nat → Int32} {a : Nat → Nat → Int32} {v4 : Option Value} {v1 v2 : Value} (hd : 0 < d) (hM : mo σ m i a) (hF : flat i a (O ++ L)) (hO : i 24 = ii O.length) (hk : mk i a w) (hw : ∀ x ∈ w, 0 < x ∧ x < 127) :
    ∀ (p : Nat), p ≤ L.length → (∀ y ∈ L.drop p, ltT w y.1 = true) → ∀ res, am_to cd_t cs d 134 39 [some (.ref m), some v1, some v2, some (.int (ii (O.length + posR L w))), v4] [] σ top sl res → am_to cd_t cs d 134 15 [some (.ref m), some v1, some v2, some (.int (ii (O.length + p))), v4] [] σ top sl res := by
  obtain ⟨f1, f2, f3⟩ := hF
  rw [List.length_append] at f2 f3
  intro p
  induction p with
  | zero =>
    intro hp hB res hh
    have e := posR_stop (A := []) (B := L) (w := w) (by rw [List.drop_zero] at hB; exact hB) (Or.inl rfl)
    rw [List.nil_append] at e
    rw [e] at hh
    refine x_n cd_i134_15 rfl rfl ?_
    refine x_n cd_i134_16 rfl rfl ?_
    show am_to cd_t _ _ 134 17 _ _ _ _ _ _
    refine x_getf cd_i134_17 hM.1 (congrArg (fun z => some (Value.int z)) (hO)) rfl ?_
    exact x_icmp_t cd_i134_20 ((ii_le (by omega) (by omega)).mpr (by simp)) hh
  | succ p ih =>
    intro hp hB res hh
    have hrow := f3 (O.length + p) (by omega)
    rw [app_getD] at hrow
    have hbf := m_before (cs := cs) (d := d - 1) (top := top) (sl := sl) hM hk hw (by omega) hrow
    have go : ∀ res, am_to cd_t cs d 134 30 [some (.ref m), some v1, some v2, some (.int (ii (O.length + (p + 1)))), v4] [.int (b2i (ltT w (L.getD p default).1))] σ top sl res → am_to cd_t cs d 134 15 [some (.ref m), some v1, some v2, some (.int (ii (O.length + (p + 1)))), v4] [] σ top sl res := by
      intro res hh
      refine x_n cd_i134_15 rfl rfl ?_
      refine x_n cd_i134_16 rfl rfl ?_
      show am_to cd_t _ _ 134 17 _ _ _ _ _ _
      refine x_getf cd_i134_17 hM.1 (congrArg (fun z => some (Value.int z)) (hO)) rfl ?_
      refine x_icmp_f cd_i134_20 (fun z => by have := (ii_le (by omega) (by omega)).mp (show ii (O.length + (p + 1)) ≤ ii O.length from z); omega) ?_
      refine x_n cd_i134_23 rfl rfl ?_
      refine x_n cd_i134_24 rfl rfl ?_
      show am_to cd_t _ _ 134 25 _ _ _ _ _ _
      refine x_ic cd_i134_25 (z := ii 1) rfl ?_
      refine x_isub cd_i134_26 (z := ii (O.length + p)) (ii_sub (b := 1) (by omega)) ?_
      refine x_callv (as' := [.int (ii (O.length + p))]) cd_i134_27 hM.1 (by omega) rfl rfl rfl rfl rfl rfl (hbf) ?_
      exact hh
    have hpl : p < L.length := by omega
    have hdrop : L.drop p = L.getD p default :: L.drop (p + 1) := by
      rw [List.drop_eq_getElem_cons hpl, entD_in hpl]
    cases hb : ltT w (L.getD p default).1 with
    | true =>
      rw [hb] at go
      refine go res (x_if_f cd_i134_30 (fun z => absurd (show (1 : Int32) = 0 from z) (by decide)) ?_)
      refine x_iinc cd_i134_33 rfl (z := ii (O.length + p)) (ii_sub1 (by omega)) rfl ?_
      refine x_n cd_i134_36 rfl rfl ?_
      show am_to cd_t _ _ 134 15 _ _ _ _ _ _
      refine ih (by omega) (fun y hy => ?_) res hh
      rw [hdrop] at hy
      rcases List.mem_cons.mp hy with e | hy
      · rw [e]; exact hb
      · exact hB y hy
    | false =>
      rw [hb] at go
      have e := posR_stop (A := L.take (p + 1)) (B := L.drop (p + 1)) (w := w) hB (Or.inr ⟨L.take p, L.getD p default, by rw [List.take_add_one, List.getElem?_eq_getElem hpl, entD_in hpl]; rfl, hb⟩)
      rw [List.take_append_drop, List.length_take, Nat.min_eq_left hp] at e
      rw [e] at hh
      exact go res (x_if_t cd_i134_30 rfl hh)
/-- the rows behind it go one place on -/
theorem m_keep_shift {F : List Ent} {e n : Nat} {i : Nat → Int32} {v1 v2 : Value} (hd : 0 < d) (hn : n = F.length) (hn32 : n ≤ 32) (he : e ≤ n) :
    ∀ (q k : Nat) (σ : am_H) (a : Nat → Nat → Int32), k = e + q → k ≤ n → mo σ m i a → (∀ j, j < k → krow a j (F.getD j default)) → (∀ j, k < j → j ≤ n → krow a j (F.getD (j - 1) default)) →
    ∃ (σ' : am_H) (a' : Nat → Nat → Int32), mo σ' m i a' ∧ (∀ j, j < e → krow a' j (F.getD j default)) ∧ (∀ j, e < j → j ≤ n → krow a' j (F.getD (j - 1) default)) ∧ (∀ k, k < 14 ∨ 17 < k → a' k = a k) ∧ (∀ x, x < m ∨ m + 25 ≤ x → σ' x = σ x) ∧
      ∀ res, am_to cd_t cs d 134 79 [some (.ref m), some v1, some v2, some (.int (ii e)), some (.int (ii e))] [] σ' top sl res → am_to cd_t cs d 134 57 [some (.ref m), some v1, some v2, some (.int (ii e)), some (.int (ii k))] [] σ top sl res := by
  intro q
  induction q with
  | zero =>
    intro k σ a hk hkn hM h1 h2
    rw [show k = e by omega] at h1 h2 ⊢
    refine ⟨σ, a, hM, h1, h2, fun _ _ => rfl, fun _ _ => rfl, fun res hh => ?_⟩
    refine x_n cd_i134_57 rfl rfl ?_
    refine x_n cd_i134_59 rfl rfl ?_
    show am_to cd_t _ _ 134 60 _ _ _ _ _ _
    exact x_icmp_t cd_i134_60 ((ii_le (by omega) (by omega)).mpr (Nat.le_refl _)) hh
  | succ q ih =>
    intro k σ a hk hkn hM h1 h2
    obtain ⟨s1, a1, b1, b2, b3, b4, b5⟩ := m_copyKept (cs := cs) (d := d - 1) (top := top) (sl := sl) (f := k - 1) (t := k) hM (by omega) (by omega) (h1 (k - 1) (by omega))
    obtain ⟨s2, a2, c1, c2, c3, c4, c5, c6⟩ := ih (k - 1) s1 a1 (by omega) (by omega) b2 (fun j hj => (h1 j (by omega)).keep b4 (by omega)) (fun j hj1 hj2 => by
      by_cases ej : j = k
      · rw [ej]; exact b3
      · exact (h2 j (by omega) hj2).keep b4 ej)
    refine ⟨s2, a2, c1, c2, c3, fun k' hk' => (c4 k' hk').trans (funext fun y => b4 k' y (by omega)), fun x hx => (c5 x hx).trans (b5 x hx), fun res hh => ?_⟩
    refine x_n cd_i134_57 rfl rfl ?_
    refine x_n cd_i134_59 rfl rfl ?_
    show am_to cd_t _ _ 134 60 _ _ _ _ _ _
    refine x_icmp_f cd_i134_60 (fun z => by have := (ii_le (by omega) (by omega)).mp (show ii k ≤ ii e from z); omega) ?_
    refine x_n cd_i134_63 rfl rfl ?_
    refine x_n cd_i134_64 rfl rfl ?_
    show am_to cd_t _ _ 134 66 _ _ _ _ _ _
    refine x_ic cd_i134_66 (z := ii 1) rfl ?_
    refine x_isub cd_i134_67 (z := ii (k - 1)) (ii_sub (b := 1) (by omega)) ?_
    refine x_n cd_i134_68 rfl rfl ?_
    show am_to cd_t _ _ 134 70 _ _ _ _ _ _
    refine x_callv (as' := [.int (ii (k - 1)), .int (ii k)]) (r := none) cd_i134_70 hM.1 (by omega) rfl rfl rfl rfl rfl rfl (b1) ?_
    refine x_iinc cd_i134_73 rfl (z := ii (k - 1)) (ii_sub1 (by omega)) rfl ?_
    refine x_n cd_i134_76 rfl rfl ?_
    show am_to cd_t _ _ 134 57 _ _ _ _ _ _
    exact c6 res hh
/-- the letters of the new row -/
theorem m_keep_text {e : Nat} {i : Nat → Int32} {v1 v2 : Value} (he : e < 33) (hw24 : w.length ≤ 24) (hw : ∀ x ∈ w, 0 < x ∧ x < 127) :
    ∀ (n k : Nat) (σ : am_H) (a : Nat → Nat → Int32), k + n = w.length → mo σ m i a → mk i a w → (∀ j, j < k → a 17 (24 * e + j) = ii (w.getD j 0)) →
    ∃ (σ' : am_H) (a' : Nat → Nat → Int32) (v4 : Option Value), mo σ' m i a' ∧ mk i a' w ∧ (∀ j, j < w.length → a' 17 (24 * e + j) = ii (w.getD j 0)) ∧ KR e a a' ∧ (∀ k, k ≠ 17 → a' k = a k) ∧ (∀ x, x < m ∨ m + 25 ≤ x → σ' x = σ x) ∧
      ∀ res, am_to cd_t cs d 134 140 [some (.ref m), some v1, some v2, some (.int (ii e)), v4] [] σ' top sl res → am_to cd_t cs d 134 106 [some (.ref m), some v1, some v2, some (.int (ii e)), some (.int (ii k))] [] σ top sl res := by
  intro n
  induction n with
  | zero =>
    intro k σ a hkn hM hk hj
    refine ⟨σ, a, some (.int (ii k)), hM, hk, fun j hj' => hj j (by omega), fun _ _ _ => rfl, fun _ _ => rfl, fun _ _ => rfl, fun res hh => ?_⟩
    refine x_n cd_i134_106 rfl rfl ?_
    refine x_n cd_i134_108 rfl rfl ?_
    show am_to cd_t _ _ 134 109 _ _ _ _ _ _
    refine x_getf cd_i134_109 hM.1 (congrArg (fun z => some (Value.int z)) (hk.1)) rfl ?_
    exact x_icmp_t cd_i134_112 ((ii_le (by omega) (by omega)).mpr (by omega)) hh
  | succ n ih =>
    intro k σ a hkn hM hk hj
    have hkl : k < w.length := by omega
    have hl := getD_let hw hkl
    have m1 := hM.sto 17 (by decide) (by decide) (upd (a 17) (24 * e + k) (ii (w.getD k 0)))
    obtain ⟨s2, a2, v4, c1, c2, c3, c4, c5, c6, c7⟩ := ih (k + 1) _ _ (by omega) m1 ⟨hk.1, hk.2.1, fun j hj' => by rw [updA_ne (by decide)]; exact hk.2.2 j hj'⟩ (fun j hj' => by
      rw [updA_eq]
      by_cases ej : j = k
      · rw [ej, upd_eq]
      · rw [upd_ne (by omega)]
        exact hj j (by omega))
    refine ⟨s2, a2, v4, c1, c2, c3, (KR.let (ii (w.getD k 0)) (show k < 24 by omega)).trans c4, fun k' hk' => (c5 k' hk').trans (updA_ne hk'), fun x hx => (c6 x hx).trans (am_up_ne _ _ (by omega)), fun res hh => ?_⟩
    refine x_n cd_i134_106 rfl rfl ?_
    refine x_n cd_i134_108 rfl rfl ?_
    show am_to cd_t _ _ 134 109 _ _ _ _ _ _
    refine x_getf cd_i134_109 hM.1 (congrArg (fun z => some (Value.int z)) (hk.1)) rfl ?_
    refine x_icmp_f cd_i134_112 (fun z => by have := (ii_le (by omega) (by omega)).mp (show ii w.length ≤ ii k from z); omega) ?_
    refine x_n cd_i134_115 rfl rfl ?_
    refine x_getf cd_i134_116 hM.1 rfl rfl ?_
    refine x_bi cd_i134_119 (z := ii 24) (by decide) ?_
    refine x_n cd_i134_121 rfl rfl ?_
    refine x_imul cd_i134_122 (ii_mul _ _) ?_
    refine x_n cd_i134_123 rfl rfl ?_
    refine x_iadd cd_i134_125 (ii_add _ _) ?_
    refine x_n cd_i134_126 rfl rfl ?_
    refine x_getf cd_i134_127 hM.1 rfl rfl ?_
    refine x_n cd_i134_130 rfl rfl ?_
    show am_to cd_t _ _ 134 132 _ _ _ _ _ _
    refine x_cald cd_i134_132 (hM.2 18 (by decide) (by decide)) (show _ < 200 by omega) (by decide) (hk.2.2 k hkl) ?_
    refine x_castore cd_i134_133 (hM.2 17 (by decide) (by decide)) (show 24 * e + k < 792 by omega) (by decide) ?_
    rw [nar_char_ii (by omega)]
    refine x_iinc cd_i134_134 rfl (ii_add _ 1) rfl ?_
    try dsimp only [List.set]
    refine x_n cd_i134_137 rfl rfl ?_
    show am_to cd_t _ _ 134 106 _ _ _ _ _ _
    exact c7 res hh
theorem m_keep {σ : am_H} {i : Nat → Int32} {a : Nat → Nat → Int32} (hd : 0 < d) (hM : mo σ m i a) (hF : flat i a (O ++ L)) (hO : i 24 = ii O.length) (hO24 : O.length ≤ 24) (hL8 : L.length ≤ 8) (hk : mk i a w) (hw : ∀ x ∈ w, 0 < x ∧ x < 127) :
    ∃ (σ' : am_H) (i' : Nat → Int32) (a' : Nat → Nat → Int32), am_to cd_t cs d 134 0 (am_ent 5 [.ref m, .int (ii (cst w)), .int (ii t)]) [] σ top sl (.inl none, σ', top, sl) ∧ mo σ' m i' a' ∧ flat i' a' (O ++ ins L (w, t)) ∧ (∀ q, q ≠ 19 → i' q = i q) ∧ (∀ k, k < 14 ∨ 17 < k → a' k = a k) ∧ ∀ x, x < m ∨ m + 25 ≤ x → σ' x = σ x := by
  obtain ⟨f1, f2, f3⟩ := id hF
  have hlenF : (O ++ L).length = O.length + L.length := List.length_append
  obtain ⟨k1, k2, k3⟩ := id hk
  unfold ins
  by_cases h24 : w.length ≤ 24
  · rw [if_pos h24]
    have hp : posR L w ≤ L.length := by unfold posR; omega
    have place := m_keep_place (cs := cs) (d := d) (top := top) (sl := sl) (v4 := none) (v1 := .int (ii (cst w))) (v2 := .int (ii t)) hd hM hF hO hk hw L.length (Nat.le_refl _) (fun y hy => by rw [List.drop_length] at hy; cases hy)
    generalize posR L w = p at hp place
    have go1 : ∀ res, am_to cd_t cs d 134 39 [some (.ref m), some (.int (ii (cst w))), some (.int (ii t)), some (.int (ii (O.length + p))), none] [] σ top sl res → am_to cd_t cs d 134 0 (am_ent 5 [.ref m, .int (ii (cst w)), .int (ii t)]) [] σ top sl res := by
      intro res hh
      refine x_n cd_i134_0 rfl rfl ?_
      show am_to cd_t _ _ 134 1 _ _ _ _ _ _
      refine x_getf cd_i134_1 hM.1 (congrArg (fun z => some (Value.int z)) (k1)) rfl ?_
      refine x_bi cd_i134_4 (z := ii 24) (by decide) ?_
      show am_to cd_t _ _ 134 6 _ _ _ _ _ _
      refine x_icmp_t cd_i134_6 ((ii_le (by omega) (by decide)).mpr h24) ?_
      refine x_n cd_i134_10 rfl rfl ?_
      show am_to cd_t _ _ 134 11 _ _ _ _ _ _
      refine x_getf cd_i134_11 hM.1 (congrArg (fun z => some (Value.int z)) ((f1.trans (congrArg ii hlenF)))) rfl ?_
      refine x_n cd_i134_14 rfl rfl ?_
      try dsimp only [List.set]
      show am_to cd_t _ _ 134 15 _ _ _ _ _ _
      exact place res hh
    have go2 : ∀ res, am_to cd_t cs d 134 47 [some (.ref m), some (.int (ii (cst w))), some (.int (ii t)), some (.int (ii (O.length + p))), none] [.int (ii 7), .int (ii p)] σ top sl res → am_to cd_t cs d 134 0 (am_ent 5 [.ref m, .int (ii (cst w)), .int (ii t)]) [] σ top sl res := by
      intro res hh
      refine go1 res ?_
      refine x_n cd_i134_39 rfl rfl ?_
      refine x_n cd_i134_40 rfl rfl ?_
      show am_to cd_t _ _ 134 41 _ _ _ _ _ _
      refine x_getf cd_i134_41 hM.1 (congrArg (fun z => some (Value.int z)) (hO)) rfl ?_
      refine x_isub cd_i134_44 (z := ii p) (by rw [ii_sub (by omega)]; congr 1; omega) ?_
      refine x_bi cd_i134_45 (z := ii 7) (by decide) ?_
      show am_to cd_t _ _ 134 47 _ _ _ _ _ _
      exact hh
    by_cases h7 : p ≤ 7
    · have hn : O.length + L.length ≤ 32 := by rw [hlenF] at f2; exact f2
      have hrows : ∀ j, j < O.length + L.length → krow a j ((O ++ L).getD j default) := fun j hj => f3 j (by omega)
      obtain ⟨s1, a1, b1, b2, b3, b4, b5, b6⟩ := m_keep_shift (cs := cs) (d := d) (m := m) (top := top) (sl := sl) (F := O ++ L) (e := O.length + p) (n := O.length + L.length) (i := i) (v1 := .int (ii (cst w))) (v2 := .int (ii t)) hd hlenF.symm hn (by omega) (L.length - p) (O.length + L.length) σ a (by omega) (Nat.le_refl _) hM hrows (fun j hj1 hj2 => by omega)
      have m1 := b1.sto 14 (by decide) (by decide) (upd (a1 14) (O.length + p) (ii (cst w)))
      have m2 := m1.sto 15 (by decide) (by decide) (upd (a1 15) (O.length + p) (ii t))
      have m3 := m2.sto 16 (by decide) (by decide) (upd (a1 16) (O.length + p) (ii w.length))
      obtain ⟨s3, hs3⟩ : ∃ z, z = am_up (am_up (am_up s1 (m + 14) (.inl (mo_ty 14, mo_sz 14, .inl (upd (a1 14) (O.length + p) (ii (cst w)))))) (m + 15) (.inl (mo_ty 15, mo_sz 15, .inl (upd (a1 15) (O.length + p) (ii t))))) (m + 16) (.inl (mo_ty 16, mo_sz 16, .inl (upd (a1 16) (O.length + p) (ii w.length)))) := ⟨_, rfl⟩
      rw [← hs3] at m3
      have r3 : KR (O.length + p) a1 (updA (updA (updA a1 14 (upd (a1 14) (O.length + p) (ii (cst w)))) 15 (upd (a1 15) (O.length + p) (ii t))) 16 (upd (a1 16) (O.length + p) (ii w.length))) := ((KR.sto (a := a1) (ii (cst w)) (by decide) (by decide)).trans (KR.sto (a := updA a1 14 (upd (a1 14) (O.length + p) (ii (cst w)))) (k := 15) (ii t) (by decide) (by decide))).trans (KR.sto (a := updA (updA a1 14 (upd (a1 14) (O.length + p) (ii (cst w)))) 15 (upd (a1 15) (O.length + p) (ii t))) (k := 16) (ii w.length) (by decide) (by decide))
      generalize ha3 : updA (updA (updA a1 14 (upd (a1 14) (O.length + p) (ii (cst w)))) 15 (upd (a1 15) (O.length + p) (ii t))) 16 (upd (a1 16) (O.length + p) (ii w.length)) = a3 at m3 r3
      have x14 : a3 14 (O.length + p) = ii (cst w) := by rw [← ha3, updA_ne (by decide), updA_ne (by decide), updA_eq, upd_eq]
      have x15 : a3 15 (O.length + p) = ii t := by rw [← ha3, updA_ne (by decide), updA_eq, upd_eq]
      have x16 : a3 16 (O.length + p) = ii w.length := by rw [← ha3, updA_eq, upd_eq]
      have o3 : ∀ k, k < 14 ∨ 17 < k → a3 k = a k := fun k hk => by
        refine Eq.trans (funext fun y => r3 k y (by omega)) (b4 k hk)
      have hk3 : mk i a3 w := ⟨k1, k2, fun k hk => by rw [o3 18 (by decide)]; exact k3 k hk⟩
      obtain ⟨s4, a4, v4, c1, c2, c3, c4, c5, c6, c7⟩ := m_keep_text (cs := cs) (d := d) (m := m) (top := top) (sl := sl) (e := O.length + p) (i := i) (v1 := .int (ii (cst w))) (v2 := .int (ii t)) (by omega) h24 hw w.length 0 s3 a3 (Nat.zero_add _) m3 hk3 (fun j hj => absurd hj (Nat.not_lt_zero j))
      have f4 : ∀ x, x < m ∨ m + 25 ≤ x → s4 x = σ x := fun x hx => by rw [c6 x hx, hs3, am_up_ne _ _ (by omega), am_up_ne _ _ (by omega), am_up_ne _ _ (by omega), b5 x hx]
      have new : krow a4 (O.length + p) (w, t) := ⟨by rw [c5 14 (by decide)]; exact x14, by rw [c5 15 (by decide)]; exact x15, by rw [c5 16 (by decide)]; exact x16, h24, hw, c3⟩
      have r4 : KR (O.length + p) a1 a4 := r3.trans c4
      have rows4 : ∀ j, j < O.length + L.length + 1 → krow a4 j (((O ++ L).take (O.length + p) ++ (w, t) :: (O ++ L).drop (O.length + p)).getD j default) := by
        intro j hj
        rw [ins_getD (by omega)]
        by_cases j1 : j < O.length + p
        · rw [if_pos j1]
          exact (b2 j j1).keep r4 (by omega)
        · rw [if_neg j1]
          by_cases j2 : j = O.length + p
          · rw [if_pos j2, j2]
            exact new
          · rw [if_neg j2]
            exact (b3 j (by omega) (by omega)).keep r4 j2
      have elist : (O ++ L).take (O.length + p) ++ (w, t) :: (O ++ L).drop (O.length + p) = O ++ (L.take p ++ (w, t) :: L.drop p) := by
        rw [List.take_length_add_append, List.drop_length_add_append, List.append_assoc]
      rw [elist] at rows4
      obtain ⟨M, hMl⟩ : ∃ M, M = L.take p ++ (w, t) :: L.drop p := ⟨_, rfl⟩
      rw [← hMl] at rows4
      have lM : M.length = L.length + 1 := by
        rw [hMl, List.length_append, List.length_cons, List.length_take, List.length_drop]
        omega
      show ∃ (σ' : am_H) (i' : Nat → Int32) (a' : Nat → Nat → Int32), _ ∧ _ ∧ flat i' a' (O ++ (L.take p ++ (w, t) :: L.drop p).take 8) ∧ _
      rw [← hMl]
      have lT : (M.take 8).length = if L.length < 8 then L.length + 1 else 8 := by
        rw [List.length_take, lM]
        split <;> omega
      have m5 := c1.put (upd i 19 (ii (O ++ M.take 8).length))
      have lOT : (O ++ M.take 8).length = O.length + (if L.length < 8 then L.length + 1 else 8) := by rw [List.length_append, lT]
      refine ⟨_, _, a4, go2 _ (x_icmp_t cd_i134_47 ((ii_le (by omega) (by decide)).mpr h7) ?_), m5, ⟨upd_eq, by rw [lOT]; split <;> omega, fun e he => ?_⟩, fun q hq => upd_ne hq, fun k hk => ?_, fun x hx => by rw [am_up_ne _ _ (by omega), f4 x hx]⟩
      · refine x_n cd_i134_51 rfl rfl ?_
        show am_to cd_t _ _ 134 52 _ _ _ _ _ _
        refine x_getf cd_i134_52 hM.1 (congrArg (fun z => some (Value.int z)) ((f1.trans (congrArg ii hlenF)))) rfl ?_
        refine x_n cd_i134_55 rfl rfl ?_
        try dsimp only [List.set]
        show am_to cd_t _ _ 134 57 _ _ _ _ _ _
        refine b6 _ ?_
        refine x_n cd_i134_79 rfl rfl ?_
        refine x_getf cd_i134_80 b1.1 rfl rfl ?_
        refine x_n cd_i134_83 rfl rfl ?_
        refine x_n cd_i134_84 rfl rfl ?_
        show am_to cd_t _ _ 134 85 _ _ _ _ _ _
        refine x_iastore cd_i134_85 (b1.2 14 (by decide) (by decide)) (show _ < 33 by omega) (by decide) ?_
        refine x_n cd_i134_86 rfl rfl ?_
        refine x_getf cd_i134_87 m1.1 rfl rfl ?_
        refine x_n cd_i134_90 rfl rfl ?_
        refine x_n cd_i134_91 rfl rfl ?_
        show am_to cd_t _ _ 134 92 _ _ _ _ _ _
        refine x_iastore cd_i134_92 (m1.2 15 (by decide) (by decide)) (show _ < 33 by omega) (by decide) ?_
        refine x_n cd_i134_93 rfl rfl ?_
        refine x_getf cd_i134_94 m2.1 rfl rfl ?_
        refine x_n cd_i134_97 rfl rfl ?_
        refine x_n cd_i134_98 rfl rfl ?_
        show am_to cd_t _ _ 134 99 _ _ _ _ _ _
        refine x_getf cd_i134_99 m2.1 (congrArg (fun z => some (Value.int z)) (k1)) rfl ?_
        refine x_iastore cd_i134_102 (m2.2 16 (by decide) (by decide)) (show _ < 33 by omega) (by decide) ?_
        refine hs3 ▸ ?_
        refine x_ic cd_i134_103 (z := ii 0) rfl ?_
        refine x_n cd_i134_104 rfl rfl ?_
        try dsimp only [List.set]
        show am_to cd_t _ _ 134 106 _ _ _ _ _ _
        refine c7 _ ?_
        have fin : am_to cd_t cs d 134 168 [some (.ref m), some (.int (ii (cst w))), some (.int (ii t)), some (.int (ii (O.length + p))), v4] [.int (ii (O ++ M.take 8).length), .ref m] s4 top sl (.inl none, am_up s4 m (.inr (.inl (11, mo_f m (upd i 19 (ii (O ++ M.take 8).length))))), top, sl) := by
          refine x_putf cd_i134_168 (fs' := mo_f m (upd i 19 (ii (O ++ M.take 8).length))) c1.1 rfl rfl rfl ?_
          exact x_end cd_i134_171 rfl rfl rfl
        refine x_n cd_i134_140 rfl rfl ?_
        refine x_n cd_i134_141 rfl rfl ?_
        show am_to cd_t _ _ 134 142 _ _ _ _ _ _
        refine x_getf cd_i134_142 c1.1 (congrArg (fun z => some (Value.int z)) ((f1.trans (congrArg ii hlenF)))) rfl ?_
        refine x_n cd_i134_145 rfl rfl ?_
        show am_to cd_t _ _ 134 146 _ _ _ _ _ _
        refine x_getf cd_i134_146 c1.1 (congrArg (fun z => some (Value.int z)) (hO)) rfl ?_
        refine x_isub cd_i134_149 (z := ii L.length) (by rw [ii_sub (by omega)]; congr 1; omega) ?_
        refine x_bi cd_i134_150 (z := ii 8) (by decide) ?_
        show am_to cd_t _ _ 134 152 _ _ _ _ _ _
        by_cases h8 : L.length < 8
        · rw [if_pos h8] at lOT
          refine x_icmp_f cd_i134_152 (fun z => by have := (ii_le (by decide) (by omega)).mp (show ii 8 ≤ ii L.length from z); omega) ?_
          refine x_n cd_i134_155 rfl rfl ?_
          show am_to cd_t _ _ 134 156 _ _ _ _ _ _
          refine x_getf cd_i134_156 c1.1 (congrArg (fun z => some (Value.int z)) ((f1.trans (congrArg ii hlenF)))) rfl ?_
          refine x_ic cd_i134_159 (z := ii 1) rfl ?_
          show am_to cd_t _ _ 134 160 _ _ _ _ _ _
          refine x_iadd cd_i134_160 (z := ii (O ++ M.take 8).length) (by rw [ii_add, lOT]; congr 1) ?_
          refine x_n cd_i134_161 rfl rfl ?_
          show am_to cd_t _ _ 134 168 _ _ _ _ _ _
          exact fin
        · rw [if_neg h8] at lOT
          refine x_icmp_t cd_i134_152 ((ii_le (by decide) (by omega)).mpr (by omega)) ?_
          refine x_n cd_i134_164 rfl rfl ?_
          show am_to cd_t _ _ 134 165 _ _ _ _ _ _
          refine x_getf cd_i134_165 c1.1 (congrArg (fun z => some (Value.int z)) ((show i 19 = ii (O ++ M.take 8).length by rw [f1, hlenF, lOT]; congr 1; omega))) rfl ?_
          exact fin
      · have he' : e < O.length + (if L.length < 8 then L.length + 1 else 8) := by rw [← lOT]; exact he
        have heM : e < O.length + L.length + 1 := by
          split at he' <;> omega
        have := rows4 e heM
        have eg : (O ++ M.take 8).getD e default = (O ++ M).getD e default := by
          rw [List.getD_eq_getElem?_getD, List.getD_eq_getElem?_getD]
          by_cases h : e < O.length
          · rw [List.getElem?_append_left h, List.getElem?_append_left h]
          · rw [List.getElem?_append_right (by omega), List.getElem?_append_right (by omega), List.getElem?_take, if_pos (by split at he' <;> omega)]
        rw [eg]
        exact this
      · exact (funext fun y => c4 k y (by omega) : a4 k = a3 k).trans (o3 k hk)
    · have h8 : L.length = 8 ∧ p = 8 := by omega
      have eT : (L.take p ++ (w, t) :: L.drop p).take 8 = L := by
        rw [h8.2, List.take_of_length_le (l := L) (by omega), List.take_append_of_le_length (by omega), List.take_of_length_le (by omega)]
      show ∃ (σ' : am_H) (i' : Nat → Int32) (a' : Nat → Nat → Int32), _ ∧ _ ∧ flat i' a' (O ++ (L.take p ++ (w, t) :: L.drop p).take 8) ∧ _
      rw [eT]
      refine ⟨σ, i, a, go2 _ (x_icmp_f cd_i134_47 (fun z => by have := (ii_le (by omega) (by decide)).mp (show ii p ≤ ii 7 from z); omega) ?_), hM, hF, fun _ _ => rfl, fun _ _ => rfl, fun _ _ => rfl⟩
      exact x_end cd_i134_50 rfl rfl rfl
  · rw [if_neg h24]
    refine ⟨σ, i, a, ?_, hM, hF, fun _ _ => rfl, fun _ _ => rfl, fun _ _ => rfl⟩
    refine x_n cd_i134_0 rfl rfl ?_
    show am_to cd_t _ _ 134 1 _ _ _ _ _ _
    refine x_getf cd_i134_1 hM.1 (congrArg (fun z => some (Value.int z)) (k1)) rfl ?_
    refine x_bi cd_i134_4 (z := ii 24) (by decide) ?_
    show am_to cd_t _ _ 134 6 _ _ _ _ _ _
    refine x_icmp_f cd_i134_6 (fun z => h24 ((ii_le (by omega) (by decide)).mp z)) ?_
    exact x_end cd_i134_9 rfl rfl rfl
end KQ
