theorem wv27_iff {txt : List Nat} {p : Nat} {w : List Nat} (hw : ∀ c ∈ w, 97 ≤ c ∧ c ≤ 122) (h1 : 1 ≤ w.length) (h4 : w.length ≤ 4) : wv27 txt p = n27 w ↔ wl txt p = w := by
  constructor
  · intro h
    unfold wv27 at h
    split at h
    · exact n27_inj wl_low hw h
    · have : ([] : List Nat) = w := n27_inj (fun c hc => by cases hc) hw h
      rw [← this] at h1
      exact absurd h1 (by decide)
  · intro h
    unfold wv27
    rw [h, if_pos h4]
section MT
variable {cs : Nat → Value} {d m top sl : Nat} {σ : am_H} {i : Nat → Int32} {a : Nat → Nat → Int32} {txt : List Nat} {p : Nat}
theorem m_readType (hd : 2 < d) (hT : ∀ c ∈ txt, cok c) (hM : mo σ m i a) (hB : M_buf i a txt) (hP : M_at i p) (hG : i 4 = b2i true) (hp : p < 900) :
    ∃ (σ' : am_H) (i' : Nat → Int32), am_to cd_t cs d 113 0 (am_ent 3 [.ref m]) [] σ top sl (.inl (some (.int (oi (tkT txt p).1))), σ', top, sl) ∧ mo σ' m i' a ∧ M_at i' (tkT txt p).2 ∧ i' 4 = b2i (tkT txt p).1.isSome ∧ M_same [3, 4] [] i i' a a ∧ ∀ x, x < m ∨ m + 25 ≤ x → σ' x = σ x := by
  have hl := getD_cok hT p
  have look := m_look (cs := cs) (d := d - 1) (top := top) (sl := sl) (k := 0) hM hB hP hT (by omega) (by decide)
  rw [Nat.add_zero] at look
  unfold tkT
  cases hc : (tkC txt p).1 with
  | some c =>
    have e2 := (tkC_some hc).2.1
    obtain ⟨s1, i1, a1, a2, a3, a4, a5, a6⟩ := m_readClass (cs := cs) (d := d - 1) (top := top) (sl := sl) (g := true) (by omega) hT hM hB hP hG hp
    rw [hc] at a1 a4
    refine ⟨s1, i1, ?_, a2, a3, a4, a5, a6⟩
    refine x_n cd_i113_0 rfl rfl ?_
    refine x_ic cd_i113_1 (z := ii 0) rfl ?_
    show am_to cd_t _ _ 113 2 _ _ _ _ _ _
    refine x_callv (as' := [.int (ii 0)]) cd_i113_2 hM.1 (by omega) rfl rfl rfl rfl rfl rfl look ?_
    refine x_calls (as := [.int (ii (txt.getD p 0))]) cd_i113_5 (by omega) rfl rfl rfl rfl rfl rfl (m_large (by omega)) ?_
    rw [big_iff, hc]
    refine x_if_f cd_i113_8 (fun z => absurd (show (1 : Int32) = 0 from z) (by decide)) ?_
    refine x_ic cd_i113_11 (z := ii 3) rfl ?_
    refine x_n cd_i113_12 rfl rfl ?_
    show am_to cd_t _ _ 113 13 _ _ _ _ _ _
    refine x_callv (as' := []) cd_i113_13 hM.1 (by omega) rfl rfl rfl rfl rfl rfl a1 ?_
    rw [if_pos rfl]
    refine x_iadd cd_i113_16 (z := ii (3 + c)) (ii_add _ _) ?_
    exact x_end cd_i113_17 rfl rfl rfl
  | none =>
    obtain ⟨s1, i1, a1, a2, a3, a4, a5⟩ := m_letters (cs := cs) (d := d - 1) (top := top) (sl := sl) (by omega) hT hM hB hP (by omega)
    have hsm := wv27_small txt p
    have j1 := wv27_iff (txt := txt) (p := p) (w := [105, 110, 116]) (by decide) (by decide) (by decide)
    have j2 := wv27_iff (txt := txt) (p := p) (w := [108, 111, 110, 103]) (by decide) (by decide) (by decide)
    have j3 := wv27_iff (txt := txt) (p := p) (w := [98, 111, 111, 108]) (by decide) (by decide) (by decide)
    generalize hr : (if wl txt p = [105, 110, 116] then some 0 else if wl txt p = [108, 111, 110, 103] then some 1 else if wl txt p = [98, 111, 111, 108] then some 2 else (none : Option Nat)) = r
    have hr2 : ∀ t, r = some t → t < 3 := by
      intro t ht
      rw [← hr] at ht
      split at ht
      · cases ht; decide
      · split at ht
        · cases ht; decide
        · split at ht
          · cases ht; decide
          · cases ht
    obtain ⟨s2, b1, b2, b3⟩ := m_must (cs := cs) (d := d - 1) (top := top) (sl := sl) (s := r.isSome) (g := true) a2 ((a4.1 4 (by decide)).trans hG)
    rw [Bool.true_and] at b2
    refine ⟨s2, _, ?_, b2, a3, rfl, (a4.wide (by decide) (by decide)).trans (M_same.num _ 4 _ (by decide)), fun x hx => (b3 x hx).trans (a5 x hx)⟩
    have fin : ∀ z : Int32, z = oi r → am_to cd_t cs d 113 80 [some (.ref m), some (.int (ii (wv27 txt p))), none] [.int z] s1 top sl (.inl (some (.int (oi r))), s2, top, sl) := by
      intro z hz
      rw [hz]
      refine x_n cd_i113_80 rfl rfl ?_
      try dsimp only [List.set]
      refine x_n cd_i113_81 rfl rfl ?_
      refine x_n cd_i113_82 rfl rfl ?_
      refine x_ic cd_i113_83 (z := (-1)) rfl ?_
      show am_to cd_t _ _ 113 84 _ _ _ _ _ _
      cases r with
      | none =>
        refine x_icmp_t cd_i113_84 rfl ?_
        refine x_ic cd_i113_91 (z := ii 0) rfl ?_
        show am_to cd_t _ _ 113 92 _ _ _ _ _ _
        refine x_callv (as' := [.int (ii 0)]) (r := none) cd_i113_92 a2.1 (by omega) rfl rfl rfl rfl rfl rfl b1 ?_
        refine x_n cd_i113_95 rfl rfl ?_
        show am_to cd_t _ _ 113 96 _ _ _ _ _ _
        exact x_end cd_i113_96 rfl rfl rfl
      | some t =>
        have := hr2 t rfl
        refine x_icmp_f cd_i113_84 (fun z => ii_ne1 (by omega) (show ii t = -1 from z)) ?_
        refine x_ic cd_i113_87 (z := ii 1) rfl ?_
        refine x_n cd_i113_88 rfl rfl ?_
        show am_to cd_t _ _ 113 92 _ _ _ _ _ _
        refine x_callv (as' := [.int (ii 1)]) (r := none) cd_i113_92 a2.1 (by omega) rfl rfl rfl rfl rfl rfl b1 ?_
        refine x_n cd_i113_95 rfl rfl ?_
        show am_to cd_t _ _ 113 96 _ _ _ _ _ _
        exact x_end cd_i113_96 rfl rfl rfl
    refine x_n cd_i113_0 rfl rfl ?_
    refine x_ic cd_i113_1 (z := ii 0) rfl ?_
    show am_to cd_t _ _ 113 2 _ _ _ _ _ _
    refine x_callv (as' := [.int (ii 0)]) cd_i113_2 hM.1 (by omega) rfl rfl rfl rfl rfl rfl look ?_
    refine x_calls (as := [.int (ii (txt.getD p 0))]) cd_i113_5 (by omega) rfl rfl rfl rfl rfl rfl (m_large (by omega)) ?_
    rw [big_iff, hc]
    refine x_if_t cd_i113_8 rfl ?_
    refine x_n cd_i113_18 rfl rfl ?_
    show am_to cd_t _ _ 113 19 _ _ _ _ _ _
    refine x_callv (as' := []) cd_i113_19 hM.1 (by omega) rfl rfl rfl rfl rfl rfl a1 ?_
    refine x_n cd_i113_22 rfl rfl ?_
    try dsimp only [List.set]
    refine x_n cd_i113_23 rfl rfl ?_
    refine x_bi cd_i113_24 (z := ii 105) (by decide) ?_
    refine x_bi cd_i113_26 (z := ii 110) (by decide) ?_
    refine x_bi cd_i113_28 (z := ii 116) (by decide) ?_
    refine x_ic cd_i113_30 (z := ii 0) rfl ?_
    show am_to cd_t _ _ 113 31 _ _ _ _ _ _
    refine x_calls (as := [.int (ii 105), .int (ii 110), .int (ii 116), .int (ii 0)]) cd_i113_31 (by omega) rfl rfl rfl rfl rfl rfl (m_spell (by decide) (by decide) (by decide) (Or.inl rfl)) ?_
    rw [if_pos rfl]
    by_cases n1 : wl txt p = [105, 110, 116]
    · rw [if_pos n1] at hr
      refine x_icmp_f cd_i113_34 (fun z => z (by rw [j1.mpr n1])) ?_
      refine x_ic cd_i113_37 (z := ii 0) rfl ?_
      refine x_n cd_i113_38 rfl rfl ?_
      show am_to cd_t _ _ 113 80 _ _ _ _ _ _
      exact fin _ (by rw [← hr]; rfl)
    · rw [if_neg n1] at hr
      refine x_icmp_t cd_i113_34 (fun z => n1 (j1.mp ((ii_eq (by omega) (by decide)).mp z))) ?_
      refine x_n cd_i113_41 rfl rfl ?_
      refine x_bi cd_i113_42 (z := ii 108) (by decide) ?_
      refine x_bi cd_i113_44 (z := ii 111) (by decide) ?_
      refine x_bi cd_i113_46 (z := ii 110) (by decide) ?_
      refine x_bi cd_i113_48 (z := ii 103) (by decide) ?_
      show am_to cd_t _ _ 113 50 _ _ _ _ _ _
      refine x_calls (as := [.int (ii 108), .int (ii 111), .int (ii 110), .int (ii 103)]) cd_i113_50 (by omega) rfl rfl rfl rfl rfl rfl (m_spell (by decide) (by decide) (by decide) (Or.inr (by decide))) ?_
      rw [if_neg (by decide)]
      by_cases n2 : wl txt p = [108, 111, 110, 103]
      · rw [if_pos n2] at hr
        refine x_icmp_f cd_i113_53 (fun z => z (by rw [j2.mpr n2])) ?_
        refine x_ic cd_i113_56 (z := ii 1) rfl ?_
        refine x_n cd_i113_57 rfl rfl ?_
        show am_to cd_t _ _ 113 80 _ _ _ _ _ _
        exact fin _ (by rw [← hr]; rfl)
      · rw [if_neg n2] at hr
        refine x_icmp_t cd_i113_53 (fun z => n2 (j2.mp ((ii_eq (by omega) (by decide)).mp z))) ?_
        refine x_n cd_i113_60 rfl rfl ?_
        refine x_bi cd_i113_61 (z := ii 98) (by decide) ?_
        refine x_bi cd_i113_63 (z := ii 111) (by decide) ?_
        refine x_bi cd_i113_65 (z := ii 111) (by decide) ?_
        refine x_bi cd_i113_67 (z := ii 108) (by decide) ?_
        show am_to cd_t _ _ 113 69 _ _ _ _ _ _
        refine x_calls (as := [.int (ii 98), .int (ii 111), .int (ii 111), .int (ii 108)]) cd_i113_69 (by omega) rfl rfl rfl rfl rfl rfl (m_spell (by decide) (by decide) (by decide) (Or.inr (by decide))) ?_
        rw [if_neg (by decide)]
        by_cases n3 : wl txt p = [98, 111, 111, 108]
        · rw [if_pos n3] at hr
          refine x_icmp_f cd_i113_72 (fun z => z (by rw [j3.mpr n3])) ?_
          refine x_ic cd_i113_75 (z := ii 2) rfl ?_
          refine x_n cd_i113_76 rfl rfl ?_
          show am_to cd_t _ _ 113 80 _ _ _ _ _ _
          exact fin _ (by rw [← hr]; rfl)
        · rw [if_neg n3] at hr
          refine x_icmp_t cd_i113_72 (fun z => n3 (j3.mp ((ii_eq (by omega) (by decide)).mp z))) ?_
          refine x_ic cd_i113_79 (z := (-1)) rfl ?_
          show am_to cd_t _ _ 113 80 _ _ _ _ _ _
          exact fin _ (by rw [← hr]; rfl)
end MT
