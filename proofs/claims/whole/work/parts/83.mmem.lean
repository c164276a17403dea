/-! a member, in the reference -/
theorem nar_bool (s : Bool) : vp_nar .boolean (b2i s) = b2i s := by cases s <;> rfl
section MM
variable {cs : Nat → Value} {d m top sl : Nat} {txt : List Nat} {r : Nat}
theorem x_bast {y pc u k : Nat} {lv : am_V} {st : List Value} {res : am_R} {σ : am_H} {a n i : Nat} {f : Nat → Int32} {s : Bool} (hI : cd_I y pc = some (.bastore, u, k)) (ho : σ a = some (.inl (.boolean, n, .inl f))) (hi : i < n) (hn : n ≤ 2147483648) (h : am_to cd_t cs d y (pc + 1) lv st (am_up σ a (.inl (.boolean, n, .inl (upd f i (b2i s))))) top sl res) : am_to cd_t cs d y pc lv (.int (b2i s) :: .int (ii i) :: .ref a :: st) σ top sl res := x_bastore hI ho hi hn (by rw [nar_bool]; exact h)
theorem M_buf.upA {i : Nat → Int32} {a : Nat → Nat → Int32} {k : Nat} {f : Nat → Int32} (h : M_buf i a txt) (hk : 1 ≠ k) : M_buf i (updA a k f) txt := ⟨h.1, h.2.1, fun j hj => by rw [updA_ne hk]; exact h.2.2 j hj⟩
theorem m_member_tail {σ : am_H} {i : Nat → Int32} {a : Nat → Nat → Int32} {p : Nat} {g : Bool} {v2 : Option Value} (hd : 3 < d) (hT : ∀ c ∈ txt, cok c) (hr : r < 66) (hM : mo σ m i a) (hB : M_buf i a txt) (hP : M_at i p) (hp : p ≤ txt.length) (hG : i 4 = b2i g) :
    ∃ (σ' : am_H) (i' : Nat → Int32) (z : Int32) (p' : Nat), am_to cd_t cs d 110 165 [some (.ref m), some (.int (ii r)), v2] [] σ top sl (.inl none, σ', top, sl) ∧ mo σ' m i' (updA a 9 (upd (a 9) r z)) ∧ M_at i' p' ∧ p' ≤ txt.length ∧ i' 4 = b2i (g && (pTyp txt p).isSome) ∧ (g = true → ∀ T, pTyp txt p = some T → p' = T.2 ∧ z = ii T.1) ∧ (∀ k, k ∉ [3, 4] → i' k = i k) ∧ ∀ x, x < m ∨ m + 25 ≤ x → σ' x = σ x := by
  have hlen := hB.2.1
  obtain ⟨s1, b1, b2, b3⟩ := m_expect (cs := cs) (d := d - 1) (top := top) (sl := sl) (c := 58) (g := g) (p := p) (by omega) hM hB hP hG hT (by omega) (by decide)
  have go : ∀ res, am_to cd_t cs d 110 177 [some (.ref m), some (.int (ii r)), v2] [.ref m, .int (ii r), .ref (m + 9)] s1 top sl res → am_to cd_t cs d 110 165 [some (.ref m), some (.int (ii r)), v2] [] σ top sl res := by
    intro res hh
    refine x_n cd_i110_165 rfl rfl ?_
    refine x_bi cd_i110_166 (z := ii 58) (by decide) ?_
    show am_to cd_t _ _ 110 168 _ _ _ _ _ _
    refine x_callv (as' := [.int (ii 58)]) (r := none) cd_i110_168 hM.1 (by omega) rfl rfl rfl rfl rfl rfl (b1) ?_
    refine x_n cd_i110_171 rfl rfl ?_
    refine x_getf cd_i110_172 b2.1 rfl rfl ?_
    refine x_n cd_i110_175 rfl rfl ?_
    refine x_n cd_i110_176 rfl rfl ?_
    show am_to cd_t _ _ 110 177 _ _ _ _ _ _
    exact hh
  have i1 : ∀ k, k ∉ [3, 4] → upd (upd i 3 (ii (if txt.getD p 0 = 58 then p + 1 else p))) 4 (b2i (g && (txt.getD p 0 == 58))) k = i k := fun k hk => by
    have h3 : k ≠ 3 := fun z => hk (by rw [z]; decide)
    have h4 : k ≠ 4 := fun z => hk (by rw [z]; decide)
    rw [upd_ne h4, upd_ne h3]
  unfold pTyp
  by_cases hb : (g && (txt.getD p 0 == 58)) = true
  · rw [Bool.and_eq_true, beq_iff_eq] at hb
    obtain ⟨hg, hc⟩ := hb
    have hlt := getD_lt hc (by decide)
    rw [hg, beq_iff_eq.mpr hc] at b2 i1
    rw [if_pos hc] at b2 i1 ⊢
    rw [hg]
    have B1 : M_buf (upd (upd i 3 (ii (p + 1))) 4 (b2i (true && true))) a txt := ⟨(i1 2 (by decide)).trans hB.1, hB.2⟩
    obtain ⟨s4, i4, d1, d2, d3, d4, d5, d6⟩ := m_readType (cs := cs) (d := d - 1) (top := top) (sl := sl) (p := p + 1) (by omega) hT b2 B1 rfl rfl (by omega)
    refine ⟨_, i4, oi (tkT txt (p + 1)).1, (tkT txt (p + 1)).2, go _ ?_, d2.sto 9 (by decide) (by decide) _, d3, tkT_len (by omega), ?_, fun _ T hT => ?_, fun k hk => (d5.1 k hk).trans (i1 k hk), fun x hx => by rw [am_up_ne _ _ (by omega), d6 x hx, b3 x hx]⟩
    · refine x_getf cd_i110_177 b2.1 (congrArg (fun z => some (Value.int z)) (rfl)) rfl ?_
      refine x_if_f cd_i110_180 (fun z => absurd (show (1 : Int32) = 0 from z) (by decide)) ?_
      refine x_n cd_i110_183 rfl rfl ?_
      show am_to cd_t _ _ 110 184 _ _ _ _ _ _
      refine x_callv (as' := []) cd_i110_184 b2.1 (by omega) rfl rfl rfl rfl rfl rfl (d1) ?_
      refine x_n cd_i110_187 rfl rfl ?_
      show am_to cd_t _ _ 110 191 _ _ _ _ _ _
      refine x_iastore cd_i110_191 (d2.2 9 (by decide) (by decide)) (show _ < 66 by omega) (by decide) ?_
      exact x_end cd_i110_192 rfl rfl rfl
    · rw [d4]
      cases (tkT txt (p + 1)).1 <;> rfl
    · cases ht : (tkT txt (p + 1)).1 with
      | none =>
        rw [ht] at hT
        cases hT
      | some t =>
        rw [ht] at hT
        cases hT
        exact ⟨rfl, rfl⟩
  · have hb : (g && (txt.getD p 0 == 58)) = false := by
      cases h : (g && (txt.getD p 0 == 58)) with
      | false => rfl
      | true => exact absurd h hb
    rw [hb] at b2 i1
    refine ⟨_, _, ii 0, if txt.getD p 0 = 58 then p + 1 else p, go _ ?_, b2.sto 9 (by decide) (by decide) _, rfl, ?_, ?_, fun hg T hT => ?_, i1, fun x hx => by rw [am_up_ne _ _ (by omega), b3 x hx]⟩
    · refine x_getf cd_i110_177 b2.1 (congrArg (fun z => some (Value.int z)) (rfl)) rfl ?_
      refine x_if_t cd_i110_180 rfl ?_
      refine x_ic cd_i110_190 (z := ii 0) rfl ?_
      show am_to cd_t _ _ 110 191 _ _ _ _ _ _
      refine x_iastore cd_i110_191 (b2.2 9 (by decide) (by decide)) (show _ < 66 by omega) (by decide) ?_
      exact x_end cd_i110_192 rfl rfl rfl
    · split
      · next h => exact getD_lt h (by decide)
      · exact hp
    · have : (g && (if txt.getD p 0 = 58 then (match (tkT txt (p + 1)).1 with
        | none => none
        | some t => some (t, (tkT txt (p + 1)).2)) else (none : Option (Nat × Nat))).isSome) = false := by
        cases g with
        | false => rfl
        | true =>
          rw [Bool.true_and, beq_eq_false_iff_ne] at hb
          rw [if_neg hb]
          rfl
      exact congrArg b2i this.symm
    · rw [hg, Bool.true_and, beq_eq_false_iff_ne] at hb
      rw [if_neg hb] at hT
      cases hT
end MM
