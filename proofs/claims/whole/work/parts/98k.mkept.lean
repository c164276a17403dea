/-- one kept row alone changes -/
def KR (t : Nat) (a a' : Nat → Nat → Int32) : Prop := ∀ k q, (k < 14 ∨ 17 < k ∨ (k ≤ 16 ∧ q ≠ t) ∨ (k = 17 ∧ ¬ (24 * t ≤ q ∧ q < 24 * t + 24))) → a' k q = a k q
theorem KR.trans {t : Nat} {a a1 a2 : Nat → Nat → Int32} (h : KR t a a1) (h' : KR t a1 a2) : KR t a a2 := fun k q hk => (h' k q hk).trans (h k q hk)
theorem KR.sto {t k : Nat} {a : Nat → Nat → Int32} (x : Int32) (h1 : 14 ≤ k) (h2 : k ≤ 16) : KR t a (updA a k (upd (a k) t x)) := by
  intro k' q hk
  unfold updA
  by_cases e : k' = k
  · rw [if_pos e, e, upd_ne (by omega)]
  · rw [if_neg e]
theorem KR.let {t j : Nat} {a : Nat → Nat → Int32} (x : Int32) (hj : j < 24) : KR t a (updA a 17 (upd (a 17) (24 * t + j) x)) := by
  intro k' q hk
  unfold updA
  by_cases e : k' = 17
  · rw [if_pos e, e, upd_ne (by omega)]
  · rw [if_neg e]
theorem krow.keep {a a' : Nat → Nat → Int32} {e t : Nat} {E : Ent} (h : krow a e E) (hr : KR t a a') (hne : e ≠ t) : krow a' e E := by
  obtain ⟨h1, h2, h3, h4, h5, h6⟩ := h
  exact ⟨(hr 14 e (by omega)).trans h1, (hr 15 e (by omega)).trans h2, (hr 16 e (by omega)).trans h3, h4, h5, fun k hk => (hr 17 _ (by omega)).trans (h6 k hk)⟩
section KP
variable {cs : Nat → Value} {d m top sl : Nat}
theorem m_before {σ : am_H} {i : Nat → Int32} {a : Nat → Nat → Int32} {w : List Nat} {e : Nat} {E : Ent} (hM : mo σ m i a) (hk : mk i a w) (hw : ∀ x ∈ w, 0 < x ∧ x < 127) (he : e < 33) (hE : krow a e E) :
    am_to cd_t cs d 135 0 (am_ent 3 [.ref m, .int (ii e)]) [] σ top sl (.inl (some (.int (b2i (ltT w E.1)))), σ, top, sl) := by
  obtain ⟨k1, k2, k3⟩ := hk
  obtain ⟨e1, e2, e3, e4, e5, e6⟩ := hE
  have loop : ∀ (n k : Nat), k + n = w.length → k ≤ E.1.length → am_to cd_t cs d 135 2 [some (.ref m), some (.int (ii e)), some (.int (ii k))] [] σ top sl (.inl (some (.int (b2i (ltT (w.drop k) (E.1.drop k))))), σ, top, sl) := by
    intro n
    induction n with
    | zero =>
      intro k hkn hkE
      rw [List.drop_of_length_le (l := w) (by omega)]
      refine x_n cd_i135_2 rfl rfl ?_
      refine x_n cd_i135_3 rfl rfl ?_
      show am_to cd_t _ _ 135 4 _ _ _ _ _ _
      refine x_getf cd_i135_4 hM.1 (congrArg (fun z => some (Value.int z)) (k1)) rfl ?_
      refine x_icmp_t cd_i135_7 ((ii_le (by omega) (by omega)).mpr (by omega)) ?_
      refine x_n cd_i135_72 rfl rfl ?_
      show am_to cd_t _ _ 135 73 _ _ _ _ _ _
      refine x_getf cd_i135_73 hM.1 (congrArg (fun z => some (Value.int z)) (k1)) rfl ?_
      refine x_n cd_i135_76 rfl rfl ?_
      refine x_getf cd_i135_77 hM.1 rfl rfl ?_
      refine x_n cd_i135_80 rfl rfl ?_
      show am_to cd_t _ _ 135 81 _ _ _ _ _ _
      refine x_iald cd_i135_81 (hM.2 16 (by decide) (by decide)) (show _ < 33 by omega) (by decide) (e3) ?_
      by_cases hlt : w.length < E.1.length
      · refine x_icmp_f cd_i135_82 (fun z => by have := (ii_le (by omega) (by omega)).mp (show ii E.1.length ≤ ii w.length from z); omega) ?_
        rw [List.drop_eq_getElem_cons (show k < E.1.length by omega)]
        refine x_ic cd_i135_85 (z := ii 1) rfl ?_
        refine x_n cd_i135_86 rfl rfl ?_
        show am_to cd_t _ _ 135 90 _ _ _ _ _ _
        exact x_end cd_i135_90 rfl rfl rfl
      · refine x_icmp_t cd_i135_82 ((ii_le (by omega) (by omega)).mpr (by omega)) ?_
        rw [List.drop_of_length_le (l := E.1) (by omega)]
        refine x_ic cd_i135_89 (z := ii 0) rfl ?_
        show am_to cd_t _ _ 135 90 _ _ _ _ _ _
        exact x_end cd_i135_90 rfl rfl rfl
    | succ n ih =>
      intro k hkn hkE
      have hkw : k < w.length := by omega
      have lw := getD_let hw hkw
      have gw : w[k] = w.getD k 0 := by rw [List.getD_eq_getElem?_getD, List.getElem?_eq_getElem hkw]; rfl
      rw [List.drop_eq_getElem_cons hkw, gw]
      refine x_n cd_i135_2 rfl rfl ?_
      refine x_n cd_i135_3 rfl rfl ?_
      show am_to cd_t _ _ 135 4 _ _ _ _ _ _
      refine x_getf cd_i135_4 hM.1 (congrArg (fun z => some (Value.int z)) (k1)) rfl ?_
      refine x_icmp_f cd_i135_7 (fun z => by have := (ii_le (by omega) (by omega)).mp (show ii w.length ≤ ii k from z); omega) ?_
      refine x_n cd_i135_10 rfl rfl ?_
      refine x_n cd_i135_11 rfl rfl ?_
      refine x_getf cd_i135_12 hM.1 rfl rfl ?_
      refine x_n cd_i135_15 rfl rfl ?_
      show am_to cd_t _ _ 135 16 _ _ _ _ _ _
      refine x_iald cd_i135_16 (hM.2 16 (by decide) (by decide)) (show _ < 33 by omega) (by decide) (e3) ?_
      by_cases hke : k < E.1.length
      · have le := getD_let e5 hke
        have ge : E.1[k] = E.1.getD k 0 := by rw [List.getD_eq_getElem?_getD, List.getElem?_eq_getElem hke]; rfl
        rw [List.drop_eq_getElem_cons hke, ge, ltT]
        refine x_icmp_f cd_i135_17 (fun z => by have := (ii_le (by omega) (by omega)).mp (show ii E.1.length ≤ ii k from z); omega) ?_
        refine x_n cd_i135_20 rfl rfl ?_
        refine x_getf cd_i135_21 hM.1 rfl rfl ?_
        refine x_n cd_i135_24 rfl rfl ?_
        show am_to cd_t _ _ 135 25 _ _ _ _ _ _
        refine x_cald cd_i135_25 (hM.2 18 (by decide) (by decide)) (show _ < 200 by omega) (by decide) (k3 k hkw) ?_
        refine x_n cd_i135_26 rfl rfl ?_
        refine x_getf cd_i135_27 hM.1 rfl rfl ?_
        refine x_bi cd_i135_30 (z := ii 24) (by decide) ?_
        refine x_n cd_i135_32 rfl rfl ?_
        refine x_imul cd_i135_33 (ii_mul _ _) ?_
        refine x_n cd_i135_34 rfl rfl ?_
        refine x_iadd cd_i135_35 (ii_add _ _) ?_
        show am_to cd_t _ _ 135 36 _ _ _ _ _ _
        refine x_cald cd_i135_36 (hM.2 17 (by decide) (by decide)) (show _ < 792 by omega) (by decide) (e6 k hke) ?_
        by_cases ec : w.getD k 0 = E.1.getD k 0
        · rw [if_pos ec]
          refine x_icmp_t cd_i135_37 (by rw [ec]; exact rfl) ?_
          refine x_iinc cd_i135_66 rfl (ii_add _ 1) rfl ?_
          try dsimp only [List.set]
          refine x_n cd_i135_69 rfl rfl ?_
          show am_to cd_t _ _ 135 2 _ _ _ _ _ _
          exact ih (k + 1) (by omega) (by omega)
        · rw [if_neg ec]
          refine x_icmp_f cd_i135_37 (fun z => ec ((ii_eq (by omega) (by omega)).mp z)) ?_
          refine x_n cd_i135_40 rfl rfl ?_
          refine x_getf cd_i135_41 hM.1 rfl rfl ?_
          refine x_n cd_i135_44 rfl rfl ?_
          show am_to cd_t _ _ 135 45 _ _ _ _ _ _
          refine x_cald cd_i135_45 (hM.2 18 (by decide) (by decide)) (show _ < 200 by omega) (by decide) (k3 k hkw) ?_
          refine x_n cd_i135_46 rfl rfl ?_
          refine x_getf cd_i135_47 hM.1 rfl rfl ?_
          refine x_bi cd_i135_50 (z := ii 24) (by decide) ?_
          refine x_n cd_i135_52 rfl rfl ?_
          refine x_imul cd_i135_53 (ii_mul _ _) ?_
          refine x_n cd_i135_54 rfl rfl ?_
          refine x_iadd cd_i135_55 (ii_add _ _) ?_
          show am_to cd_t _ _ 135 56 _ _ _ _ _ _
          refine x_cald cd_i135_56 (hM.2 17 (by decide) (by decide)) (show _ < 792 by omega) (by decide) (e6 k hke) ?_
          by_cases hl : w.getD k 0 < E.1.getD k 0
          · rw [decide_eq_true hl]
            refine x_icmp_f cd_i135_57 (fun z => by have := (ii_le (by omega) (by omega)).mp (show ii (E.1.getD k 0) ≤ ii (w.getD k 0) from z); omega) ?_
            refine x_ic cd_i135_60 (z := ii 1) rfl ?_
            refine x_n cd_i135_61 rfl rfl ?_
            show am_to cd_t _ _ 135 65 _ _ _ _ _ _
            exact x_end cd_i135_65 rfl rfl rfl
          · rw [decide_eq_false hl]
            refine x_icmp_t cd_i135_57 ((ii_le (by omega) (by omega)).mpr (by omega)) ?_
            refine x_ic cd_i135_64 (z := ii 0) rfl ?_
            show am_to cd_t _ _ 135 65 _ _ _ _ _ _
            exact x_end cd_i135_65 rfl rfl rfl
      · rw [List.drop_of_length_le (l := E.1) (by omega)]
        refine x_icmp_t cd_i135_17 ((ii_le (by omega) (by omega)).mpr (by omega)) ?_
        refine x_n cd_i135_72 rfl rfl ?_
        show am_to cd_t _ _ 135 73 _ _ _ _ _ _
        refine x_getf cd_i135_73 hM.1 (congrArg (fun z => some (Value.int z)) (k1)) rfl ?_
        refine x_n cd_i135_76 rfl rfl ?_
        refine x_getf cd_i135_77 hM.1 rfl rfl ?_
        refine x_n cd_i135_80 rfl rfl ?_
        show am_to cd_t _ _ 135 81 _ _ _ _ _ _
        refine x_iald cd_i135_81 (hM.2 16 (by decide) (by decide)) (show _ < 33 by omega) (by decide) (e3) ?_
        refine x_icmp_t cd_i135_82 ((ii_le (by omega) (by omega)).mpr (by omega)) ?_
        refine x_ic cd_i135_89 (z := ii 0) rfl ?_
        show am_to cd_t _ _ 135 90 _ _ _ _ _ _
        exact x_end cd_i135_90 rfl rfl rfl
  refine x_ic cd_i135_0 (z := ii 0) rfl ?_
  refine x_n cd_i135_1 rfl rfl ?_
  try dsimp only [List.set]
  show am_to cd_t _ _ 135 2 _ _ _ _ _ _
  exact loop w.length 0 (Nat.zero_add _) (Nat.zero_le _)
theorem m_copyKept {σ : am_H} {i : Nat → Int32} {a : Nat → Nat → Int32} {f t : Nat} {E : Ent} (hM : mo σ m i a) (ht : t < 33) (hft : f < t) (hE : krow a f E) :
    ∃ (σ' : am_H) (a' : Nat → Nat → Int32), am_to cd_t cs d 136 0 (am_ent 4 [.ref m, .int (ii f), .int (ii t)]) [] σ top sl (.inl none, σ', top, sl) ∧ mo σ' m i a' ∧ krow a' t E ∧ KR t a a' ∧ ∀ x, x < m ∨ m + 25 ≤ x → σ' x = σ x := by
  obtain ⟨e1, e2, e3, e4, e5, e6⟩ := id hE
  have m1 := hM.sto 14 (by decide) (by decide) (upd (a 14) t (ii (cst E.1)))
  have m2 := m1.sto 15 (by decide) (by decide) (upd (a 15) t (ii E.2))
  have m3 := m2.sto 16 (by decide) (by decide) (upd (a 16) t (ii E.1.length))
  obtain ⟨s3, hs3⟩ : ∃ z, z = am_up (am_up (am_up σ (m + 14) (.inl (mo_ty 14, mo_sz 14, .inl (upd (a 14) t (ii (cst E.1)))))) (m + 15) (.inl (mo_ty 15, mo_sz 15, .inl (upd (a 15) t (ii E.2))))) (m + 16) (.inl (mo_ty 16, mo_sz 16, .inl (upd (a 16) t (ii E.1.length)))) := ⟨_, rfl⟩
  rw [← hs3] at m3
  have r3 : KR t a (updA (updA (updA a 14 (upd (a 14) t (ii (cst E.1)))) 15 (upd (a 15) t (ii E.2))) 16 (upd (a 16) t (ii E.1.length))) := ((KR.sto (a := a) (ii (cst E.1)) (by decide) (by decide)).trans (KR.sto (a := updA a 14 (upd (a 14) t (ii (cst E.1)))) (k := 15) (ii E.2) (by decide) (by decide))).trans (KR.sto (a := updA (updA a 14 (upd (a 14) t (ii (cst E.1)))) 15 (upd (a 15) t (ii E.2))) (k := 16) (ii E.1.length) (by decide) (by decide))
  generalize ha3 : updA (updA (updA a 14 (upd (a 14) t (ii (cst E.1)))) 15 (upd (a 15) t (ii E.2))) 16 (upd (a 16) t (ii E.1.length)) = a3 at m3 r3
  have x14 : a3 14 t = ii (cst E.1) := by rw [← ha3, updA_ne (by decide), updA_ne (by decide), updA_eq, upd_eq]
  have x15 : a3 15 t = ii E.2 := by rw [← ha3, updA_ne (by decide), updA_eq, upd_eq]
  have x16 : a3 16 t = ii E.1.length := by rw [← ha3, updA_eq, upd_eq]
  have f3 : ∀ x, x < m ∨ m + 25 ≤ x → s3 x = σ x := fun x hx => by rw [hs3, am_up_ne _ _ (by omega), am_up_ne _ _ (by omega), am_up_ne _ _ (by omega)]
  have loop : ∀ (n k : Nat) (σ : am_H) (b : Nat → Nat → Int32), k + n = 24 → mo σ m i b → KR t a3 b → b 14 = a3 14 → b 15 = a3 15 → b 16 = a3 16 → (∀ j, j < k → j < E.1.length → b 17 (24 * t + j) = ii (E.1.getD j 0)) →
      ∃ (σ' : am_H) (a' : Nat → Nat → Int32), am_to cd_t cs d 136 38 [some (.ref m), some (.int (ii f)), some (.int (ii t)), some (.int (ii k))] [] σ top sl (.inl none, σ', top, sl) ∧ mo σ' m i a' ∧ krow a' t E ∧ KR t a3 a' ∧ ∀ x, x < m ∨ m + 25 ≤ x → σ' x = σ x := by
    intro n
    induction n with
    | zero =>
      intro k σ b hk hM hR h14 h15 h16 hj
      refine ⟨σ, b, ?_, hM, ⟨by rw [h14]; exact x14, by rw [h15]; exact x15, by rw [h16]; exact x16, e4, e5, fun k' hk' => hj k' (by omega) hk'⟩, hR, fun _ _ => rfl⟩
      refine x_n cd_i136_38 rfl rfl ?_
      refine x_bi cd_i136_39 (z := ii 24) (by decide) ?_
      show am_to cd_t _ _ 136 41 _ _ _ _ _ _
      refine x_icmp_t cd_i136_41 ((ii_le (by decide) (by omega)).mpr (by omega)) ?_
      exact x_end cd_i136_72 rfl rfl rfl
    | succ n ih =>
      intro k σ b hk hM hR h14 h15 h16 hj
      have m4 := hM.sto 17 (by decide) (by decide) (upd (b 17) (24 * t + k) (vp_nar .char (b 17 (24 * f + k))))
      obtain ⟨s2, a2, c1, c2, c3, c4, c5⟩ := ih (k + 1) _ _ (by omega) m4 (hR.trans (KR.let (vp_nar .char (b 17 (24 * f + k))) (show k < 24 by omega))) (by rw [updA_ne (by decide)]; exact h14) (by rw [updA_ne (by decide)]; exact h15) (by rw [updA_ne (by decide)]; exact h16) (fun j hj1 hj2 => by
        rw [updA_eq]
        by_cases ej : j = k
        · have hv : b 17 (24 * f + k) = ii (E.1.getD k 0) := by
            rw [hR 17 _ (by omega), r3 17 _ (by omega)]
            exact e6 k (by omega)
          rw [ej, upd_eq, hv, nar_char_ii (by have := getD_let e5 (show k < E.1.length by omega); omega)]
        · rw [upd_ne (by omega)]
          exact hj j (by omega) hj2)
      refine ⟨s2, a2, ?_, c2, c3, c4, fun x hx => (c5 x hx).trans (am_up_ne _ _ (by omega))⟩
      refine x_n cd_i136_38 rfl rfl ?_
      refine x_bi cd_i136_39 (z := ii 24) (by decide) ?_
      show am_to cd_t _ _ 136 41 _ _ _ _ _ _
      refine x_icmp_f cd_i136_41 (fun z => by have := (ii_le (by decide) (by omega)).mp (show ii 24 ≤ ii k from z); omega) ?_
      refine x_n cd_i136_44 rfl rfl ?_
      refine x_getf cd_i136_45 hM.1 rfl rfl ?_
      refine x_bi cd_i136_48 (z := ii 24) (by decide) ?_
      refine x_n cd_i136_50 rfl rfl ?_
      refine x_imul cd_i136_51 (ii_mul _ _) ?_
      refine x_n cd_i136_52 rfl rfl ?_
      refine x_iadd cd_i136_53 (ii_add _ _) ?_
      refine x_n cd_i136_54 rfl rfl ?_
      refine x_getf cd_i136_55 hM.1 rfl rfl ?_
      refine x_bi cd_i136_58 (z := ii 24) (by decide) ?_
      refine x_n cd_i136_60 rfl rfl ?_
      refine x_imul cd_i136_61 (ii_mul _ _) ?_
      refine x_n cd_i136_62 rfl rfl ?_
      refine x_iadd cd_i136_63 (ii_add _ _) ?_
      show am_to cd_t _ _ 136 64 _ _ _ _ _ _
      refine x_cald cd_i136_64 (hM.2 17 (by decide) (by decide)) (show _ < 792 by omega) (by decide) (rfl) ?_
      refine x_castore cd_i136_65 (hM.2 17 (by decide) (by decide)) (show _ < 792 by omega) (by decide) ?_
      refine x_iinc cd_i136_66 rfl (ii_add _ 1) rfl ?_
      try dsimp only [List.set]
      refine x_n cd_i136_69 rfl rfl ?_
      show am_to cd_t _ _ 136 38 _ _ _ _ _ _
      exact c1
  obtain ⟨s4, a4, c1, c2, c3, c4, c5⟩ := loop 24 0 s3 a3 rfl m3 (fun _ _ _ => rfl) rfl rfl rfl (fun j hj => absurd hj (Nat.not_lt_zero j))
  refine ⟨s4, a4, ?_, c2, c3, r3.trans c4, fun x hx => (c5 x hx).trans (f3 x hx)⟩
  refine x_n cd_i136_0 rfl rfl ?_
  refine x_getf cd_i136_1 hM.1 rfl rfl ?_
  refine x_n cd_i136_4 rfl rfl ?_
  refine x_n cd_i136_5 rfl rfl ?_
  refine x_getf cd_i136_6 hM.1 rfl rfl ?_
  refine x_n cd_i136_9 rfl rfl ?_
  show am_to cd_t _ _ 136 10 _ _ _ _ _ _
  refine x_iald cd_i136_10 (hM.2 14 (by decide) (by decide)) (show _ < 33 by omega) (by decide) (e1) ?_
  refine x_iastore cd_i136_11 (hM.2 14 (by decide) (by decide)) (show _ < 33 by omega) (by decide) ?_
  refine x_n cd_i136_12 rfl rfl ?_
  refine x_getf cd_i136_13 m1.1 rfl rfl ?_
  refine x_n cd_i136_16 rfl rfl ?_
  refine x_n cd_i136_17 rfl rfl ?_
  refine x_getf cd_i136_18 m1.1 rfl rfl ?_
  refine x_n cd_i136_21 rfl rfl ?_
  show am_to cd_t _ _ 136 22 _ _ _ _ _ _
  refine x_iald cd_i136_22 (m1.2 15 (by decide) (by decide)) (show _ < 33 by omega) (by decide) (e2) ?_
  refine x_iastore cd_i136_23 (m1.2 15 (by decide) (by decide)) (show _ < 33 by omega) (by decide) ?_
  refine x_n cd_i136_24 rfl rfl ?_
  refine x_getf cd_i136_25 m2.1 rfl rfl ?_
  refine x_n cd_i136_28 rfl rfl ?_
  refine x_n cd_i136_29 rfl rfl ?_
  refine x_getf cd_i136_30 m2.1 rfl rfl ?_
  refine x_n cd_i136_33 rfl rfl ?_
  show am_to cd_t _ _ 136 34 _ _ _ _ _ _
  refine x_iald cd_i136_34 (m2.2 16 (by decide) (by decide)) (show _ < 33 by omega) (by decide) (e3) ?_
  refine x_iastore cd_i136_35 (m2.2 16 (by decide) (by decide)) (show _ < 33 by omega) (by decide) ?_
  refine hs3 ▸ ?_
  refine x_ic cd_i136_36 (z := ii 0) rfl ?_
  refine x_n cd_i136_37 rfl rfl ?_
  try dsimp only [List.set]
  show am_to cd_t _ _ 136 38 _ _ _ _ _ _
  exact c1
/-- all that is kept so far -/
def flat (i : Nat → Int32) (a : Nat → Nat → Int32) (F : List Ent) : Prop := i 19 = ii F.length ∧ F.length ≤ 32 ∧ ∀ e, e < F.length → krow a e (F.getD e default)
theorem entD_in {F : List Ent} {e : Nat} (h : e < F.length) : F.getD e default = F[e] := by rw [List.getD_eq_getElem?_getD, List.getElem?_eq_getElem h]; rfl
theorem ins_getD {F : List Ent} {e j : Nat} {E : Ent} (he : e ≤ F.length) : (F.take e ++ E :: F.drop e).getD j default = if j < e then F.getD j default else if j = e then E else F.getD (j - 1) default := by
  have lt : (F.take e).length = e := by rw [List.length_take]; omega
  rw [List.getD_eq_getElem?_getD, List.getD_eq_getElem?_getD, List.getD_eq_getElem?_getD]
  by_cases h1 : j < e
  · rw [if_pos h1, List.getElem?_append_left (by omega), List.getElem?_take, if_pos h1]
  · rw [if_neg h1, List.getElem?_append_right (by omega), lt]
    by_cases h2 : j = e
    · rw [if_pos h2, h2, Nat.sub_self]
      rfl
    · rw [if_neg h2, show j - e = (j - e - 1) + 1 by omega, List.getElem?_cons_succ, List.getElem?_drop, show e + (j - e - 1) = j - 1 by omega]
theorem posR_stop {A B : List Ent} {w : List Nat} (hB : ∀ y ∈ B, ltT w y.1 = true) (hA : A = [] ∨ ∃ A' z, A = A' ++ [z] ∧ ltT w z.1 = false) : posR (A ++ B) w = A.length := by
  unfold posR
  have h1 : (A ++ B).reverse.takeWhile (fun y => ltT w y.1) = B.reverse := by
    rw [List.reverse_append, List.takeWhile_append_of_pos (fun y hy => hB y (List.mem_reverse.mp hy))]
    rcases hA with e | ⟨A', z, e, hz⟩
    · rw [e]
      exact List.append_nil _
    · rw [e, List.reverse_append]
      show _ ++ List.takeWhile _ (z :: A'.reverse) = _
      rw [List.takeWhile_cons, if_neg (by rw [hz]; decide), List.append_nil]
  rw [h1, List.length_append, List.length_reverse]
  omega
end KP
