/-! words and classes: the reference -/
section ML
variable {cs : Nat → Value} {d m top sl : Nat} {a : Nat → Nat → Int32} {txt : List Nat}
theorem m_letters_loop {s0 : Nat} (hd : 0 < d) (hT : ∀ c ∈ txt, cok c) : ∀ (n q v : Nat) (wd : Int32) (σ : am_H) (i : Nat → Int32), txt.length - q = n → q < 1000 → s0 ≤ q → mo σ m i a → M_buf i a txt → M_at i q → (q - s0 ≤ 4 → wd = ii v) →
    ∃ (σ' : am_H) (i' : Nat → Int32), am_to cd_t cs d 114 4 [some (.ref m), some (.int wd), some (.int (ii (q - s0)))] [] σ top sl (.inl (some (.int (if q - s0 + (wl txt q).length ≤ 4 then ii ((wl txt q).foldl (fun v c => v * 27 + (c - 96)) v) else 0))), σ', top, sl) ∧ mo σ' m i' a ∧ M_at i' (q + (wl txt q).length) ∧ M_same [3] [] i i' a a ∧ ∀ x, x < m ∨ m + 25 ≤ x → σ' x = σ x := by
  have fin : ∀ (q v : Nat) (wd : Int32) (σ : am_H) (i : Nat → Int32), q < 1000 → s0 ≤ q → mo σ m i a → M_buf i a txt → M_at i q → (q - s0 ≤ 4 → wd = ii v) → ¬ low (txt.getD q 0) = true →
      am_to cd_t cs d 114 4 [some (.ref m), some (.int wd), some (.int (ii (q - s0)))] [] σ top sl (.inl (some (.int (if q - s0 + ([] : List Nat).length ≤ 4 then ii (([] : List Nat).foldl (fun v c => v * 27 + (c - 96)) v) else 0))), σ, top, sl) := by
    intro q v wd σ i hq hs hM hB hP hv hlow
    have hl := getD_cok hT q
    have hlen := hB.2.1
    have look := m_look (cs := cs) (d := d - 1) (top := top) (sl := sl) (k := 0) hM hB hP hT (by omega) (by decide)
    rw [Nat.add_zero] at look
    refine x_n cd_i114_4 rfl rfl ?_
    refine x_ic cd_i114_5 (z := ii 0) rfl ?_
    show am_to cd_t _ _ 114 6 _ _ _ _ _ _
    refine x_callv (as' := [.int (ii 0)]) cd_i114_6 hM.1 hd rfl rfl rfl rfl rfl rfl look ?_
    refine x_calls (as := [.int (ii (txt.getD q 0))]) cd_i114_9 hd rfl rfl rfl rfl rfl rfl (m_small (by omega)) ?_
    rw [show low (txt.getD q 0) = false by simpa using hlow]
    refine x_if_t cd_i114_12 rfl ?_
    refine x_n cd_i114_54 rfl rfl ?_
    refine x_ic cd_i114_55 (z := ii 4) rfl ?_
    show am_to cd_t _ _ 114 56 _ _ _ _ _ _
    by_cases hk : q - s0 ≤ 4
    · rw [if_pos (show q - s0 + ([] : List Nat).length ≤ 4 by rw [List.length_nil]; omega)]
      refine x_icmp_t cd_i114_56 ((ii_le (by omega) (by decide)).mpr hk) ?_
      refine x_n cd_i114_63 rfl rfl ?_
      show am_to cd_t _ _ 114 64 _ _ _ _ _ _
      rw [hv hk]
      exact x_end cd_i114_64 rfl rfl rfl
    · rw [if_neg (show ¬ q - s0 + ([] : List Nat).length ≤ 4 by rw [List.length_nil]; omega)]
      refine x_icmp_f cd_i114_56 (fun z => hk ((ii_le (by omega) (by decide)).mp z)) ?_
      refine x_ic cd_i114_59 (z := ii 0) rfl ?_
      refine x_n cd_i114_60 rfl rfl ?_
      show am_to cd_t _ _ 114 64 _ _ _ _ _ _
      exact x_end cd_i114_64 rfl rfl rfl
  intro n
  induction n with
  | zero =>
    intro q v wd σ i hq hq2 hs hM hB hP hv
    have hlow : ¬ low (txt.getD q 0) = true := by rw [getD_out (by omega)]; decide
    rw [wl_end hlow]
    exact ⟨σ, i, fin q v wd σ i hq2 hs hM hB hP hv hlow, hM, hP, ⟨fun _ _ => rfl, fun _ _ => rfl⟩, fun _ _ => rfl⟩
  | succ n ih =>
    intro q v wd σ i hq hq2 hs hM hB hP hv
    by_cases hlow : low (txt.getD q 0) = true
    · have hl2 : 97 ≤ txt.getD q 0 ∧ txt.getD q 0 ≤ 122 := by
        unfold low at hlow
        simpa using hlow
      have hlen := hB.2.1
      have hM1 := hM.put (upd i 3 (ii (q + 1)))
      have look := m_look (cs := cs) (d := d - 1) (top := top) (sl := sl) (k := 0) hM hB hP hT (by omega) (by decide)
      rw [Nat.add_zero] at look
      have tail : ∀ wd', (q + 1 - s0 ≤ 4 → wd' = ii (v * 27 + (txt.getD q 0 - 96))) → ∃ (σ' : am_H) (i' : Nat → Int32), am_to cd_t cs d 114 37 [some (.ref m), some (.int wd), some (.int (ii (q - s0)))] [.int wd'] σ top sl (.inl (some (.int (if q - s0 + (wl txt q).length ≤ 4 then ii ((wl txt q).foldl (fun v c => v * 27 + (c - 96)) v) else 0))), σ', top, sl) ∧ mo σ' m i' a ∧ M_at i' (q + (wl txt q).length) ∧ M_same [3] [] i i' a a ∧ ∀ x, x < m ∨ m + 25 ≤ x → σ' x = σ x := by
        intro wd' hw'
        obtain ⟨σ', i', k1, k2, k3, k4, k5⟩ := ih (q + 1) (v * 27 + (txt.getD q 0 - 96)) wd' _ (upd i 3 (ii (q + 1))) (by omega) (by have := hB.2.1; omega) (by omega) hM1 hB rfl hw'
        rw [wl_cons (by omega) hlow]
        rw [show q + (txt.getD q 0 :: wl txt (q + 1)).length = q + 1 + (wl txt (q + 1)).length by rw [List.length_cons]; omega, show q - s0 + (txt.getD q 0 :: wl txt (q + 1)).length = q + 1 - s0 + (wl txt (q + 1)).length by rw [List.length_cons]; omega]
        refine ⟨σ', i', ?_, k2, k3, (M_same.num _ 3 _ (by decide)).trans k4, fun x hx => (k5 x hx).trans (am_up_ne _ _ (by omega))⟩
        refine x_n cd_i114_37 rfl rfl ?_
        try dsimp only [List.set]
        show am_to cd_t _ _ 114 38 _ _ _ _ _ _
        refine x_iinc cd_i114_38 rfl (z := ii (q + 1 - s0)) (by rw [show q + 1 - s0 = q - s0 + 1 by omega]; exact ii_add _ 1) rfl ?_
        refine x_n cd_i114_41 rfl rfl ?_
        refine x_n cd_i114_42 rfl rfl ?_
        show am_to cd_t _ _ 114 43 _ _ _ _ _ _
        refine x_getf cd_i114_43 hM.1 rfl rfl ?_
        rw [show i 3 = ii q from hP]
        refine x_ic cd_i114_46 (z := ii 1) rfl ?_
        show am_to cd_t _ _ 114 47 _ _ _ _ _ _
        refine x_iadd cd_i114_47 (z := ii (q + 1)) (ii_add _ _) ?_
        refine x_putf cd_i114_48 (fs' := mo_f m (upd i 3 (ii (q + 1)))) hM.1 rfl rfl rfl ?_
        refine x_n cd_i114_51 rfl rfl ?_
        show am_to cd_t _ _ 114 4 _ _ _ _ _ _
        exact k1
      have go : ∀ res, am_to cd_t cs d 114 17 [some (.ref m), some (.int wd), some (.int (ii (q - s0)))] [.int (ii 4), .int (ii (q - s0))] σ top sl res → am_to cd_t cs d 114 4 [some (.ref m), some (.int wd), some (.int (ii (q - s0)))] [] σ top sl res := by
        intro res hh
        refine x_n cd_i114_4 rfl rfl ?_
        refine x_ic cd_i114_5 (z := ii 0) rfl ?_
        show am_to cd_t _ _ 114 6 _ _ _ _ _ _
        refine x_callv (as' := [.int (ii 0)]) cd_i114_6 hM.1 hd rfl rfl rfl rfl rfl rfl look ?_
        refine x_calls (as := [.int (ii (txt.getD q 0))]) cd_i114_9 hd rfl rfl rfl rfl rfl rfl (m_small (by omega)) ?_
        rw [hlow]
        refine x_if_f cd_i114_12 (fun z => absurd (show (1 : Int32) = 0 from z) (by decide)) ?_
        refine x_n cd_i114_15 rfl rfl ?_
        refine x_ic cd_i114_16 (z := ii 4) rfl ?_
        show am_to cd_t _ _ 114 17 _ _ _ _ _ _
        exact hh
      by_cases h4 : q - s0 < 4
      · obtain ⟨σ', i', t1, t2⟩ := tail (ii (v * 27 + (txt.getD q 0 - 96))) (fun _ => rfl)
        refine ⟨σ', i', go _ ?_, t2⟩
        refine x_icmp_f cd_i114_17 (fun z => by have := (ii_le (by decide) (by omega)).mp (show ii 4 ≤ ii (q - s0) from z); omega) ?_
        refine x_bi cd_i114_20 (z := ii 27) (by decide) ?_
        refine x_n cd_i114_22 rfl rfl ?_
        show am_to cd_t _ _ 114 23 _ _ _ _ _ _
        rw [hv (by omega)] at t1 ⊢
        refine x_imul cd_i114_23 (ii_mul _ _) ?_
        refine x_n cd_i114_24 rfl rfl ?_
        refine x_ic cd_i114_25 (z := ii 0) rfl ?_
        show am_to cd_t _ _ 114 26 _ _ _ _ _ _
        refine x_callv (as' := [.int (ii 0)]) cd_i114_26 hM.1 hd rfl rfl rfl rfl rfl rfl look ?_
        refine x_iadd cd_i114_29 (ii_add _ _) ?_
        refine x_bi cd_i114_30 (z := ii 96) (by decide) ?_
        show am_to cd_t _ _ 114 32 _ _ _ _ _ _
        refine x_isub cd_i114_32 (z := ii (v * 27 + (txt.getD q 0 - 96))) (by rw [ii_sub (by omega)]; congr 1; omega) ?_
        refine x_n cd_i114_33 rfl rfl ?_
        show am_to cd_t _ _ 114 37 _ _ _ _ _ _
        exact t1
      · obtain ⟨σ', i', t1, t2⟩ := tail (ii 0) (fun h => by omega)
        refine ⟨σ', i', go _ ?_, t2⟩
        refine x_icmp_t cd_i114_17 ((ii_le (by decide) (by omega)).mpr (by omega)) ?_
        refine x_ic cd_i114_36 (z := ii 0) rfl ?_
        show am_to cd_t _ _ 114 37 _ _ _ _ _ _
        exact t1
    · rw [wl_end hlow]
      exact ⟨σ, i, fin q v wd σ i hq2 hs hM hB hP hv hlow, hM, hP, ⟨fun _ _ => rfl, fun _ _ => rfl⟩, fun _ _ => rfl⟩
/-- the reference's number of a word -/
def wv27 (txt : List Nat) (p : Nat) : Nat := if (wl txt p).length ≤ 4 then n27 (wl txt p) else 0
theorem m_letters {σ : am_H} {i : Nat → Int32} {p : Nat} (hd : 0 < d) (hT : ∀ c ∈ txt, cok c) (hM : mo σ m i a) (hB : M_buf i a txt) (hP : M_at i p) (hp : p < 1000) :
    ∃ (σ' : am_H) (i' : Nat → Int32), am_to cd_t cs d 114 0 (am_ent 3 [.ref m]) [] σ top sl (.inl (some (.int (ii (wv27 txt p)))), σ', top, sl) ∧ mo σ' m i' a ∧ M_at i' (p + (wl txt p).length) ∧ M_same [3] [] i i' a a ∧ ∀ x, x < m ∨ m + 25 ≤ x → σ' x = σ x := by
  obtain ⟨σ', i', k1, k2⟩ := m_letters_loop (cs := cs) (d := d) (top := top) (sl := sl) (s0 := p) hd hT (txt.length - p) p 0 (ii 0) σ i rfl hp (Nat.le_refl _) hM hB hP (fun _ => rfl)
  refine ⟨σ', i', ?_, k2⟩
  refine x_ic cd_i114_0 (z := ii 0) rfl ?_
  refine x_n cd_i114_1 rfl rfl ?_
  try dsimp only [List.set]
  refine x_ic cd_i114_2 (z := ii 0) rfl ?_
  refine x_n cd_i114_3 rfl rfl ?_
  try dsimp only [List.set]
  show am_to cd_t _ _ 114 4 _ _ _ _ _ _
  rw [Nat.sub_self, Nat.zero_add] at k1
  unfold wv27
  by_cases hk : (wl txt p).length ≤ 4
  · rw [if_pos hk] at k1 ⊢
    exact k1
  · rw [if_neg hk] at k1 ⊢
    exact k1
end ML
