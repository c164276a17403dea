section MC
variable {cs : Nat → Value} {d m top sl : Nat} {σ : am_H} {i : Nat → Int32} {a : Nat → Nat → Int32} {txt : List Nat} {p : Nat} {g : Bool}
theorem big_iff {txt : List Nat} {p : Nat} : big (txt.getD p 0) = (tkC txt p).1.isSome := by
  unfold big tkC
  by_cases h : 65 ≤ txt.getD p 0 ∧ txt.getD p 0 ≤ 74
  · rw [if_pos h, decide_eq_true h.1, decide_eq_true h.2]
    rfl
  · rw [if_neg h]
    by_cases h1 : 65 ≤ txt.getD p 0
    · rw [decide_eq_false (fun z => h ⟨h1, z⟩), Bool.and_false]
      rfl
    · rw [decide_eq_false h1, Bool.false_and]
      rfl
theorem m_readClass (hd : 1 < d) (hT : ∀ c ∈ txt, cok c) (hM : mo σ m i a) (hB : M_buf i a txt) (hP : M_at i p) (hG : i 4 = b2i g) (hp : p < 900) :
    ∃ (σ' : am_H) (i' : Nat → Int32), am_to cd_t cs d 104 0 (am_ent 1 [.ref m]) [] σ top sl (.inl (some (.int (if g = true then ii ((tkC txt p).1.getD 0) else 0))), σ', top, sl) ∧ mo σ' m i' a ∧ M_at i' (p + 1) ∧ i' 4 = b2i (g && (tkC txt p).1.isSome) ∧ M_same [3, 4] [] i i' a a ∧ ∀ x, x < m ∨ m + 25 ≤ x → σ' x = σ x := by
  have hl := getD_cok hT p
  have look := m_look (cs := cs) (d := d - 1) (top := top) (sl := sl) (k := 0) hM hB hP hT (by omega) (by decide)
  rw [Nat.add_zero] at look
  obtain ⟨s1, a1, a2, a3⟩ := m_must (cs := cs) (d := d - 1) (top := top) (sl := sl) (s := (tkC txt p).1.isSome) (g := g) hM hG
  have hM2 := a2.put (upd (upd i 4 (b2i (g && (tkC txt p).1.isSome))) 3 (ii (p + 1)))
  obtain ⟨s2, hs2⟩ : ∃ s, s = am_up s1 m (.inr (.inl (11, mo_f m (upd (upd i 4 (b2i (g && (tkC txt p).1.isSome))) 3 (ii (p + 1)))))) := ⟨_, rfl⟩
  rw [← hs2] at hM2
  refine ⟨s2, _, ?_, hM2, rfl, rfl, (M_same.num _ 4 _ (by decide)).trans (M_same.num _ 3 _ (by decide)), fun x hx => by rw [hs2, am_up_ne _ _ (by omega)]; exact a3 x hx⟩
  refine x_n cd_i104_0 rfl rfl ?_
  refine x_n cd_i104_1 rfl rfl ?_
  refine x_ic cd_i104_2 (z := ii 0) rfl ?_
  show am_to cd_t _ _ 104 3 _ _ _ _ _ _
  refine x_callv (as' := [.int (ii 0)]) cd_i104_3 hM.1 (by omega) rfl rfl rfl rfl rfl rfl look ?_
  refine x_calls (as := [.int (ii (txt.getD p 0))]) cd_i104_6 (by omega) rfl rfl rfl rfl rfl rfl (m_large (by omega)) ?_
  rw [big_iff]
  refine x_callv (as' := [.int (b2i (tkC txt p).1.isSome)]) (r := none) cd_i104_9 hM.1 (by omega) rfl rfl rfl rfl rfl rfl a1 ?_
  refine x_n cd_i104_12 rfl rfl ?_
  refine x_n cd_i104_13 rfl rfl ?_
  show am_to cd_t _ _ 104 14 _ _ _ _ _ _
  refine x_getf cd_i104_14 a2.1 rfl rfl ?_
  rw [show upd i 4 (b2i (g && (tkC txt p).1.isSome)) 3 = ii p from hP]
  refine x_ic cd_i104_17 (z := ii 1) rfl ?_
  show am_to cd_t _ _ 104 18 _ _ _ _ _ _
  refine x_iadd cd_i104_18 (z := ii (p + 1)) (ii_add _ _) ?_
  refine x_putf cd_i104_19 (fs' := mo_f m (upd (upd i 4 (b2i (g && (tkC txt p).1.isSome))) 3 (ii (p + 1)))) a2.1 rfl rfl rfl ?_
  refine hs2 ▸ ?_
  refine x_n cd_i104_22 rfl rfl ?_
  show am_to cd_t _ _ 104 23 _ _ _ _ _ _
  refine x_getf cd_i104_23 hM2.1 rfl rfl ?_
  rw [show upd (upd i 4 (b2i (g && (tkC txt p).1.isSome))) 3 (ii (p + 1)) 4 = b2i (g && (tkC txt p).1.isSome) from rfl]
  cases hg : g with
  | false =>
    rw [if_neg (by decide), Bool.false_and]
    refine x_if_t cd_i104_26 rfl ?_
    refine x_ic cd_i104_46 (z := ii 0) rfl ?_
    show am_to cd_t _ _ 104 47 _ _ _ _ _ _
    exact x_end cd_i104_47 rfl rfl rfl
  | true =>
    rw [if_pos rfl, Bool.true_and]
    cases hc : (tkC txt p).1 with
    | none =>
      refine x_if_t cd_i104_26 rfl ?_
      refine x_ic cd_i104_46 (z := ii 0) rfl ?_
      show am_to cd_t _ _ 104 47 _ _ _ _ _ _
      exact x_end cd_i104_47 rfl rfl rfl
    | some c =>
      obtain ⟨e1, e2, e3⟩ := tkC_some hc
      have ec : 65 ≤ txt.getD p 0 ∧ c = txt.getD p 0 - 65 := by
        unfold tkC at hc
        split at hc
        · next h => exact ⟨h.1, (Option.some.inj hc).symm⟩
        · cases hc
      have hlen := hB.2.1
      refine x_if_f cd_i104_26 (fun z => absurd (show (1 : Int32) = 0 from z) (by decide)) ?_
      refine x_n cd_i104_29 rfl rfl ?_
      show am_to cd_t _ _ 104 30 _ _ _ _ _ _
      refine x_getf cd_i104_30 hM2.1 rfl rfl ?_
      refine x_n cd_i104_33 rfl rfl ?_
      show am_to cd_t _ _ 104 34 _ _ _ _ _ _
      refine x_getf cd_i104_34 hM2.1 rfl rfl ?_
      rw [show upd (upd i 4 (b2i (g && (tkC txt p).1.isSome))) 3 (ii (p + 1)) 3 = ii (p + 1) from rfl]
      refine x_ic cd_i104_37 (z := ii 1) rfl ?_
      show am_to cd_t _ _ 104 38 _ _ _ _ _ _
      refine x_isub cd_i104_38 (z := ii p) (by rw [ii_sub (by omega)]; rfl) ?_
      refine x_caload cd_i104_39 (hM2.2 1 (by decide) (by decide)) (show p < 120 by omega) (by decide) ?_
      rw [hB.2.2 p e3]
      refine x_bi cd_i104_40 (z := ii 65) (by decide) ?_
      show am_to cd_t _ _ 104 42 _ _ _ _ _ _
      refine x_isub cd_i104_42 (z := ii c) (by rw [ii_sub ec.1, ec.2]) ?_
      refine x_n cd_i104_43 rfl rfl ?_
      show am_to cd_t _ _ 104 47 _ _ _ _ _ _
      exact x_end cd_i104_47 rfl rfl rfl
end MC
