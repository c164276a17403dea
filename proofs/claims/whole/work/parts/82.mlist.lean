/-! a list of parameters, in the reference -/
/-- only the row r of the members' arrays changes -/
def M_row (r : Nat) (a a' : Nat → Nat → Int32) : Prop := ∀ k q, (k < 5 ∨ 11 < k ∨ (k ≤ 10 ∧ q ≠ r) ∨ (k = 11 ∧ q ≠ 2 * r ∧ q ≠ 2 * r + 1)) → a' k q = a k q
theorem M_row.refl (r : Nat) (a : Nat → Nat → Int32) : M_row r a a := fun _ _ _ => rfl
theorem M_row.trans {r : Nat} {a a1 a2 : Nat → Nat → Int32} (h : M_row r a a1) (h' : M_row r a1 a2) : M_row r a a2 := fun k q hk => (h' k q hk).trans (h k q hk)
theorem M_row.sto {r k : Nat} {a : Nat → Nat → Int32} (x : Int32) (h5 : 5 ≤ k) (h10 : k ≤ 10) : M_row r a (updA a k (upd (a k) r x)) := by
  intro k' q hk
  unfold updA
  by_cases e : k' = k
  · rw [if_pos e, e]
    unfold upd
    rw [if_neg (by omega)]
  · rw [if_neg e]
theorem M_row.sto11 {r j : Nat} {a : Nat → Nat → Int32} (x : Int32) (hj : j < 2) : M_row r a (updA a 11 (upd (a 11) (2 * r + j) x)) := by
  intro k' q hk
  unfold updA
  by_cases e : k' = 11
  · rw [if_pos e, e]
    unfold upd
    rw [if_neg (by omega)]
  · rw [if_neg e]
theorem updA_eq {a : Nat → Nat → Int32} {k : Nat} {f : Nat → Int32} : updA a k f k = f := by unfold updA; rw [if_pos rfl]
theorem updA_ne {a : Nat → Nat → Int32} {k k' : Nat} {f : Nat → Int32} (h : k' ≠ k) : updA a k f k' = a k' := by unfold updA; rw [if_neg h]
theorem upd_eq {f : Nat → Int32} {k : Nat} {x : Int32} : upd f k x k = x := by unfold upd; rw [if_pos rfl]
theorem upd_ne {f : Nat → Int32} {k k' : Nat} {x : Int32} (h : k' ≠ k) : upd f k x k' = f k' := by unfold upd; rw [if_neg h]
/-- what is left of a list, n more at most -/
def pLw (txt : List Nat) : Nat → Bool → Nat → Option (List Nat × Nat)
  | 0, _, p => if txt.getD p 0 = 41 then some ([], p + 1) else none
  | n + 1, f, p => if txt.getD p 0 = 41 then some ([], p + 1) else if f = true ∨ txt.getD p 0 = 44 then
      (match (tkT txt (if f = true then p else p + 1)).1 with
      | none => none
      | some t => (pLw txt n false (tkT txt (if f = true then p else p + 1)).2).map (fun R => (t :: R.1, R.2))) else none
theorem pPar_eq (txt : List Nat) (p : Nat) : pPar txt p = pLw txt 2 true p := by
  unfold pPar pLw
  by_cases h : txt.getD p 0 = 41
  · rw [if_pos h, if_pos h]
  · rw [if_neg h, if_neg h, if_pos (Or.inl rfl), if_pos rfl]
    cases (tkT txt p).1 with
    | none => rfl
    | some t =>
      dsimp only
      unfold pLw
      by_cases h44 : txt.getD (tkT txt p).2 0 = 44
      · rw [if_pos h44, if_neg (by rw [h44]; decide), if_pos (Or.inr h44), if_neg (by decide)]
        cases (tkT txt ((tkT txt p).2 + 1)).1 with
        | none => rfl
        | some t' =>
          dsimp only
          unfold pLw
          by_cases h2 : txt.getD (tkT txt ((tkT txt p).2 + 1)).2 0 = 41
          · rw [if_pos h2, if_pos h2]
            rfl
          · rw [if_neg h2, if_neg h2]
            rfl
      · rw [if_neg h44]
        by_cases h41 : txt.getD (tkT txt p).2 0 = 41
        · rw [if_pos h41, if_pos h41]
          rfl
        · rw [if_neg h41, if_neg h41, if_neg (by rintro (h | h); cases h; exact h44 h)]
          rfl
section ML
variable {cs : Nat → Value} {d m top sl : Nat} {txt : List Nat} {r : Nat}
/-- the end of a list that is none -/
theorem m_list_bad {σ : am_H} {i : Nat → Int32} {a : Nat → Nat → Int32} {v2 : Option Value} {w : Nat} (hM : mo σ m i a) (hG : i 4 = b2i false) (hr : r < 66) (hw : a 10 r = ii w) :
    ∃ σ', am_to cd_t cs d 112 79 [some (.ref m), some (.int (ii r)), v2] [] σ top sl (.inl none, σ', top, sl) ∧ mo σ' m i (updA a 10 (upd (a 10) r (ii (w + 1)))) ∧ ∀ x, x < m ∨ m + 25 ≤ x → σ' x = σ x := by
  have hM1 := hM.sto 10 (by decide) (by decide) (upd (a 10) r (ii (w + 1)))
  refine ⟨_, ?_, hM1, fun x hx => am_up_ne _ _ (by omega)⟩
  refine x_n cd_i112_79 rfl rfl ?_
  show am_to cd_t _ _ 112 80 _ _ _ _ _ _
  refine x_getf cd_i112_80 hM.1 (congrArg (fun z => some (Value.int z)) (hG)) rfl ?_
  refine x_if_t cd_i112_83 rfl ?_
  refine x_n cd_i112_102 rfl rfl ?_
  refine x_getf cd_i112_103 hM.1 rfl rfl ?_
  refine x_n cd_i112_106 rfl rfl ?_
  refine x_n cd_i112_107 rfl rfl ?_
  show am_to cd_t _ _ 112 108 _ _ _ _ _ _
  refine x_iald cd_i112_108 (hM.2 10 (by decide) (by decide)) (show _ < 66 by omega) (by decide) (hw) ?_
  refine x_ic cd_i112_109 (z := ii 1) rfl ?_
  refine x_iadd cd_i112_110 (ii_add _ _) ?_
  show am_to cd_t _ _ 112 111 _ _ _ _ _ _
  refine x_iastore cd_i112_111 (hM.2 10 (by decide) (by decide)) (show _ < 66 by omega) (by decide) ?_
  refine x_n cd_i112_112 rfl rfl ?_
  refine x_n cd_i112_13 rfl rfl ?_
  show am_to cd_t _ _ 112 14 _ _ _ _ _ _
  refine x_getf cd_i112_14 hM1.1 (congrArg (fun z => some (Value.int z)) (hG)) rfl ?_
  refine x_if_t cd_i112_17 rfl ?_
  exact x_end cd_i112_115 rfl rfl rfl
theorem m_list_loop (hd : 3 < d) (hT : ∀ c ∈ txt, cok c) (hr : r < 66) : ∀ (n w p : Nat) (σ : am_H) (i : Nat → Int32) (a : Nat → Nat → Int32) (ts : List Nat) (v2 : Option Value), w + n = 2 → ts.length = w → mo σ m i a → M_buf i a txt → M_at i p → p ≤ txt.length → i 4 = b2i true → a 10 r = ii w → (∀ j, j < w → a 11 (2 * r + j) = ii (ts.getD j 0)) →
    ∃ (σ' : am_H) (i' : Nat → Int32) (a' : Nat → Nat → Int32) (p' : Nat), am_to cd_t cs d 112 13 [some (.ref m), some (.int (ii r)), v2] [] σ top sl (.inl none, σ', top, sl) ∧ mo σ' m i' a' ∧ M_at i' p' ∧ p' ≤ txt.length ∧ i' 4 = b2i (pLw txt n (n == 2) p).isSome ∧ (∀ R, pLw txt n (n == 2) p = some R → p' = R.2 ∧ a' 10 r = ii (w + R.1.length) ∧ ∀ j, j < w + R.1.length → a' 11 (2 * r + j) = ii ((ts ++ R.1).getD j 0)) ∧ (∀ k, k ∉ [3, 4] → i' k = i k) ∧ M_row r a a' ∧ (∀ k, k ≠ 10 → k ≠ 11 → a' k = a k) ∧ ∀ x, x < m ∨ m + 25 ≤ x → σ' x = σ x := by
  intro n
  induction n with
  | zero =>
    intro w p σ i a ts v2 hwn hts hM hB hP hp hG hw hj
    have hlen := hB.2.1
    obtain ⟨s1, a1, a2, a3⟩ := m_pass (cs := cs) (d := d - 1) (top := top) (sl := sl) (c := 41) (by omega) hM hB hP hT (by omega) (by decide)
    have go1 : ∀ res, am_to cd_t cs d 112 26 [some (.ref m), some (.int (ii r)), v2] [.int (b2i (txt.getD p 0 == 41))] s1 top sl res → am_to cd_t cs d 112 13 [some (.ref m), some (.int (ii r)), v2] [] σ top sl res := by
      intro res hh
      refine x_n cd_i112_13 rfl rfl ?_
      show am_to cd_t _ _ 112 14 _ _ _ _ _ _
      refine x_getf cd_i112_14 hM.1 (congrArg (fun z => some (Value.int z)) (hG)) rfl ?_
      refine x_if_f cd_i112_17 (fun z => absurd (show (1 : Int32) = 0 from z) (by decide)) ?_
      refine x_n cd_i112_20 rfl rfl ?_
      refine x_bi cd_i112_21 (z := ii 41) (by decide) ?_
      show am_to cd_t _ _ 112 23 _ _ _ _ _ _
      refine x_callv (as' := [.int (ii 41)]) cd_i112_23 hM.1 (by omega) rfl rfl rfl rfl rfl rfl (a1) ?_
      exact hh
    unfold pLw
    by_cases hc : txt.getD p 0 = 41
    · have hlt := getD_lt hc (by decide)
      rw [if_pos hc] at a2 ⊢
      rw [beq_iff_eq.mpr hc] at go1
      refine ⟨s1, _, a, p + 1, go1 _ ?_, a2, rfl, by omega, hG, (fun R hR => ?_), fun k hk => upd_ne (fun z => hk (by rw [z]; decide)), M_row.refl _ _, fun _ _ _ => rfl, a3⟩
      · refine x_if_t cd_i112_26 (fun z => absurd (show (1 : Int32) = 0 from z) (by decide)) ?_
        exact x_end cd_i112_115 rfl rfl rfl
      · rw [← Option.some.inj hR]
        refine ⟨rfl, hw, fun j hj' => ?_⟩
        rw [List.append_nil]
        exact hj j hj'
    · rw [if_neg hc] at a2 ⊢
      rw [beq_eq_false_iff_ne.mpr hc] at go1
      have B1 : M_buf (upd i 3 (ii p)) a txt := hB
      obtain ⟨s2, b1, b2, b3⟩ := m_expect (cs := cs) (d := d - 1) (top := top) (sl := sl) (c := 44) (g := true) (p := p) (by omega) a2 B1 rfl hG hT (by omega) (by decide)
      obtain ⟨s3, c1, c2, c3⟩ := m_must (cs := cs) (d := d - 1) (top := top) (sl := sl) (s := false) (g := true && (txt.getD p 0 == 44)) b2 rfl
      rw [Bool.and_false] at c2
      obtain ⟨s4, d1, d2, d3⟩ := m_list_bad (cs := cs) (d := d) (top := top) (sl := sl) (v2 := some (.int (ii 0))) c2 rfl hr hw
      refine ⟨s4, _, _, if txt.getD p 0 = 44 then p + 1 else p, go1 _ ?_, d2, rfl, ?_, rfl, (fun R hR => by cases hR), fun k hk => ?_, M_row.sto _ (by decide) (by decide), fun k h1 _ => updA_ne h1, fun x hx => (d3 x hx).trans ((c3 x hx).trans ((b3 x hx).trans (a3 x hx)))⟩
      · refine x_if_f cd_i112_26 (fun z => z rfl) ?_
        refine x_n cd_i112_29 rfl rfl ?_
        refine x_getf cd_i112_30 a2.1 rfl rfl ?_
        refine x_n cd_i112_33 rfl rfl ?_
        show am_to cd_t _ _ 112 34 _ _ _ _ _ _
        refine x_iald cd_i112_34 (a2.2 10 (by decide) (by decide)) (show _ < 66 by omega) (by decide) (hw) ?_
        refine x_if_f cd_i112_35 (fun z => by have := (ii_le (b := 0) (by omega) (by decide)).mp (show ii w ≤ ii 0 from z); omega) ?_
        refine x_n cd_i112_38 rfl rfl ?_
        refine x_bi cd_i112_39 (z := ii 44) (by decide) ?_
        show am_to cd_t _ _ 112 41 _ _ _ _ _ _
        refine x_callv (as' := [.int (ii 44)]) (r := none) cd_i112_41 a2.1 (by omega) rfl rfl rfl rfl rfl rfl (b1) ?_
        refine x_n cd_i112_44 rfl rfl ?_
        refine x_n cd_i112_45 rfl rfl ?_
        refine x_getf cd_i112_46 b2.1 rfl rfl ?_
        refine x_n cd_i112_49 rfl rfl ?_
        show am_to cd_t _ _ 112 50 _ _ _ _ _ _
        refine x_iald cd_i112_50 (b2.2 10 (by decide) (by decide)) (show _ < 66 by omega) (by decide) (hw) ?_
        refine x_ic cd_i112_51 (z := ii 2) rfl ?_
        show am_to cd_t _ _ 112 52 _ _ _ _ _ _
        refine x_icmp_t cd_i112_52 ((ii_le (by decide) (by omega)).mpr (by omega)) ?_
        refine x_ic cd_i112_59 (z := ii 0) rfl ?_
        show am_to cd_t _ _ 112 60 _ _ _ _ _ _
        refine x_callv (as' := [.int (b2i false)]) (r := none) cd_i112_60 b2.1 (by omega) rfl rfl rfl rfl rfl rfl (c1) ?_
        refine x_n cd_i112_63 rfl rfl ?_
        show am_to cd_t _ _ 112 64 _ _ _ _ _ _
        refine x_getf cd_i112_64 c2.1 (congrArg (fun z => some (Value.int z)) (rfl)) rfl ?_
        refine x_if_t cd_i112_67 rfl ?_
        refine x_ic cd_i112_77 (z := ii 0) rfl ?_
        refine x_n cd_i112_78 rfl rfl ?_
        try dsimp only [List.set]
        show am_to cd_t _ _ 112 79 _ _ _ _ _ _
        exact d1
      · split
        · next h => exact getD_lt h (by decide)
        · exact hp
      · have h3 : k ≠ 3 := fun z => hk (by rw [z]; decide)
        have h4 : k ≠ 4 := fun z => hk (by rw [z]; decide)
        rw [upd_ne h4, upd_ne h4, upd_ne h3, upd_ne h3]
  | succ n ih =>
    intro w p σ i a ts v2 hwn hts hM hB hP hp hG hw hj
    have hlen := hB.2.1
    obtain ⟨s1, a1, a2, a3⟩ := m_pass (cs := cs) (d := d - 1) (top := top) (sl := sl) (c := 41) (by omega) hM hB hP hT (by omega) (by decide)
    have go1 : ∀ res, am_to cd_t cs d 112 26 [some (.ref m), some (.int (ii r)), v2] [.int (b2i (txt.getD p 0 == 41))] s1 top sl res → am_to cd_t cs d 112 13 [some (.ref m), some (.int (ii r)), v2] [] σ top sl res := by
      intro res hh
      refine x_n cd_i112_13 rfl rfl ?_
      show am_to cd_t _ _ 112 14 _ _ _ _ _ _
      refine x_getf cd_i112_14 hM.1 (congrArg (fun z => some (Value.int z)) (hG)) rfl ?_
      refine x_if_f cd_i112_17 (fun z => absurd (show (1 : Int32) = 0 from z) (by decide)) ?_
      refine x_n cd_i112_20 rfl rfl ?_
      refine x_bi cd_i112_21 (z := ii 41) (by decide) ?_
      show am_to cd_t _ _ 112 23 _ _ _ _ _ _
      refine x_callv (as' := [.int (ii 41)]) cd_i112_23 hM.1 (by omega) rfl rfl rfl rfl rfl rfl (a1) ?_
      exact hh
    rw [pLw]
    by_cases hc : txt.getD p 0 = 41
    · have hlt := getD_lt hc (by decide)
      rw [if_pos hc] at a2 ⊢
      rw [beq_iff_eq.mpr hc] at go1
      refine ⟨s1, _, a, p + 1, go1 _ ?_, a2, rfl, by omega, hG, (fun R hR => ?_), fun k hk => upd_ne (fun z => hk (by rw [z]; decide)), M_row.refl _ _, fun _ _ _ => rfl, a3⟩
      · refine x_if_t cd_i112_26 (fun z => absurd (show (1 : Int32) = 0 from z) (by decide)) ?_
        exact x_end cd_i112_115 rfl rfl rfl
      · rw [← Option.some.inj hR]
        refine ⟨rfl, hw, fun j hj' => ?_⟩
        rw [List.append_nil]
        exact hj j hj'
    · rw [if_neg hc] at a2 ⊢
      rw [beq_eq_false_iff_ne.mpr hc] at go1
      have B1 : M_buf (upd i 3 (ii p)) a txt := hB
      have mid : ∃ (s2 : am_H) (i2 : Nat → Int32) (q : Nat) (g : Bool), mo s2 m i2 a ∧ M_at i2 q ∧ q ≤ txt.length ∧ i2 4 = b2i g ∧ (g = true ↔ ((n + 1 == 2) = true ∨ txt.getD p 0 = 44)) ∧ (g = true → q = if (n + 1 == 2) = true then p else p + 1) ∧ (∀ k, k ∉ [3, 4] → i2 k = i k) ∧ (∀ x, x < m ∨ m + 25 ≤ x → s2 x = σ x) ∧ ∀ res, am_to cd_t cs d 112 44 [some (.ref m), some (.int (ii r)), v2] [] s2 top sl res → am_to cd_t cs d 112 13 [some (.ref m), some (.int (ii r)), v2] [] σ top sl res := by
        by_cases hw0 : w = 0
        · have hn2 : (n + 1 == 2) = true := beq_iff_eq.mpr (by omega)
          refine ⟨s1, _, p, true, a2, rfl, hp, hG, ⟨fun _ => Or.inl hn2, fun _ => rfl⟩, fun _ => by rw [if_pos hn2], fun k hk => upd_ne (fun z => hk (by rw [z]; decide)), a3, fun res hh => go1 res ?_⟩
          refine x_if_f cd_i112_26 (fun z => z rfl) ?_
          refine x_n cd_i112_29 rfl rfl ?_
          refine x_getf cd_i112_30 a2.1 rfl rfl ?_
          refine x_n cd_i112_33 rfl rfl ?_
          show am_to cd_t _ _ 112 34 _ _ _ _ _ _
          refine x_iald cd_i112_34 (a2.2 10 (by decide) (by decide)) (show _ < 66 by omega) (by decide) (hw) ?_
          refine x_if_t cd_i112_35 ((ii_le (b := 0) (by omega) (by decide)).mpr (by omega)) ?_
          exact hh
        · have hn2 : ¬ (n + 1 == 2) = true := fun z => by have := beq_iff_eq.mp z; omega
          obtain ⟨s2, b1, b2, b3⟩ := m_expect (cs := cs) (d := d - 1) (top := top) (sl := sl) (c := 44) (g := true) (p := p) (by omega) a2 B1 rfl hG hT (by omega) (by decide)
          rw [Bool.true_and] at b2
          refine ⟨s2, _, if txt.getD p 0 = 44 then p + 1 else p, (txt.getD p 0 == 44), b2, rfl, ?_, rfl, ?_, ?_, fun k hk => ?_, fun x hx => (b3 x hx).trans (a3 x hx), fun res hh => go1 res ?_⟩
          · split
            · next h => exact getD_lt h (by decide)
            · exact hp
          · rw [beq_iff_eq]
            exact ⟨Or.inr, fun h => h.resolve_left hn2⟩
          · intro h
            rw [if_pos (beq_iff_eq.mp h), if_neg hn2]
          · have h3 : k ≠ 3 := fun z => hk (by rw [z]; decide)
            have h4 : k ≠ 4 := fun z => hk (by rw [z]; decide)
            rw [upd_ne h4, upd_ne h3, upd_ne h3]
          · refine x_if_f cd_i112_26 (fun z => z rfl) ?_
            refine x_n cd_i112_29 rfl rfl ?_
            refine x_getf cd_i112_30 a2.1 rfl rfl ?_
            refine x_n cd_i112_33 rfl rfl ?_
            show am_to cd_t _ _ 112 34 _ _ _ _ _ _
            refine x_iald cd_i112_34 (a2.2 10 (by decide) (by decide)) (show _ < 66 by omega) (by decide) (hw) ?_
            refine x_if_f cd_i112_35 (fun z => by have := (ii_le (b := 0) (by omega) (by decide)).mp (show ii w ≤ ii 0 from z); omega) ?_
            refine x_n cd_i112_38 rfl rfl ?_
            refine x_bi cd_i112_39 (z := ii 44) (by decide) ?_
            show am_to cd_t _ _ 112 41 _ _ _ _ _ _
            refine x_callv (as' := [.int (ii 44)]) (r := none) cd_i112_41 a2.1 (by omega) rfl rfl rfl rfl rfl rfl (b1) ?_
            exact hh
      obtain ⟨s2, i2, q, g, b1, b2, b3, b4, b5, b6, b7, b8, b9⟩ := mid
      obtain ⟨s3, c1, c2, c3⟩ := m_must (cs := cs) (d := d - 1) (top := top) (sl := sl) (s := true) (g := g) b1 b4
      rw [Bool.and_true] at c2
      have go2 : ∀ res, am_to cd_t cs d 112 63 [some (.ref m), some (.int (ii r)), v2] [] s3 top sl res → am_to cd_t cs d 112 13 [some (.ref m), some (.int (ii r)), v2] [] σ top sl res := by
        intro res hh
        refine b9 res ?_
        refine x_n cd_i112_44 rfl rfl ?_
        refine x_n cd_i112_45 rfl rfl ?_
        refine x_getf cd_i112_46 b1.1 rfl rfl ?_
        refine x_n cd_i112_49 rfl rfl ?_
        show am_to cd_t _ _ 112 50 _ _ _ _ _ _
        refine x_iald cd_i112_50 (b1.2 10 (by decide) (by decide)) (show _ < 66 by omega) (by decide) (hw) ?_
        refine x_ic cd_i112_51 (z := ii 2) rfl ?_
        show am_to cd_t _ _ 112 52 _ _ _ _ _ _
        refine x_icmp_f cd_i112_52 (fun z => by have := (ii_le (by decide) (by omega)).mp (show ii 2 ≤ ii w from z); omega) ?_
        refine x_ic cd_i112_55 (z := ii 1) rfl ?_
        refine x_n cd_i112_56 rfl rfl ?_
        show am_to cd_t _ _ 112 60 _ _ _ _ _ _
        refine x_callv (as' := [.int (b2i true)]) (r := none) cd_i112_60 b1.1 (by omega) rfl rfl rfl rfl rfl rfl (c1) ?_
        exact hh
      have i3 : ∀ k, k ∉ [3, 4] → upd i2 4 (b2i g) k = i k := fun k hk => (upd_ne (fun z => hk (by rw [z]; decide))).trans (b7 k hk)
      have f3 : ∀ x, x < m ∨ m + 25 ≤ x → s3 x = σ x := fun x hx => (c3 x hx).trans (b8 x hx)
      have B3 : M_buf (upd i2 4 (b2i g)) a txt := ⟨(i3 2 (by decide)).trans hB.1, hB.2⟩
      cases g with
      | false =>
        rw [if_neg (fun h => by have := b5.mpr h; cases this)]
        obtain ⟨s4, d1, d2, d3⟩ := m_list_bad (cs := cs) (d := d) (top := top) (sl := sl) (v2 := some (.int (ii 0))) c2 rfl hr hw
        refine ⟨s4, _, _, q, go2 _ ?_, d2, b2, b3, rfl, (fun R hR => by cases hR), i3, M_row.sto _ (by decide) (by decide), fun k h1 _ => updA_ne h1, fun x hx => (d3 x hx).trans (f3 x hx)⟩
        refine x_n cd_i112_63 rfl rfl ?_
        show am_to cd_t _ _ 112 64 _ _ _ _ _ _
        refine x_getf cd_i112_64 c2.1 (congrArg (fun z => some (Value.int z)) (rfl)) rfl ?_
        refine x_if_t cd_i112_67 rfl ?_
        refine x_ic cd_i112_77 (z := ii 0) rfl ?_
        refine x_n cd_i112_78 rfl rfl ?_
        try dsimp only [List.set]
        show am_to cd_t _ _ 112 79 _ _ _ _ _ _
        exact d1
      | true =>
        rw [if_pos (b5.mp rfl), ← b6 rfl]
        have hl2 := tkT_len (txt := txt) (p := q) b3
        obtain ⟨s4, i4, d1, d2, d3, d4, d5, d6⟩ := m_readType (cs := cs) (d := d - 1) (top := top) (sl := sl) (p := q) (by omega) hT c2 B3 b2 rfl (by omega)
        have i4' : ∀ k, k ∉ [3, 4] → i4 k = i k := fun k hk => (d5.1 k hk).trans (i3 k hk)
        have f4 : ∀ x, x < m ∨ m + 25 ≤ x → s4 x = σ x := fun x hx => (d6 x hx).trans (f3 x hx)
        have go3 : ∀ z : Int32, am_to cd_t cs (d - 1) 113 0 (am_ent 3 [.ref m]) [] s3 top sl (.inl (some (.int z)), s4, top, sl) → ∀ res, am_to cd_t cs d 112 79 [some (.ref m), some (.int (ii r)), some (.int z)] [] s4 top sl res → am_to cd_t cs d 112 13 [some (.ref m), some (.int (ii r)), v2] [] σ top sl res := by
          intro z hz res hh
          refine go2 res ?_
          refine x_n cd_i112_63 rfl rfl ?_
          show am_to cd_t _ _ 112 64 _ _ _ _ _ _
          refine x_getf cd_i112_64 c2.1 (congrArg (fun z => some (Value.int z)) (rfl)) rfl ?_
          refine x_if_f cd_i112_67 (fun z => absurd (show (1 : Int32) = 0 from z) (by decide)) ?_
          refine x_n cd_i112_70 rfl rfl ?_
          show am_to cd_t _ _ 112 71 _ _ _ _ _ _
          refine x_callv (as' := []) cd_i112_71 c2.1 (by omega) rfl rfl rfl rfl rfl rfl (hz) ?_
          refine x_n cd_i112_74 rfl rfl ?_
          refine x_n cd_i112_78 rfl rfl ?_
          try dsimp only [List.set]
          show am_to cd_t _ _ 112 79 _ _ _ _ _ _
          exact hh
        cases ht : (tkT txt q).1 with
        | none =>
          rw [ht] at d1 d4
          obtain ⟨s5, e1, e2, e3⟩ := m_list_bad (cs := cs) (d := d) (top := top) (sl := sl) (v2 := some (.int (-1))) d2 d4 hr hw
          exact ⟨s5, _, _, _, go3 _ d1 _ e1, e2, d3, hl2, d4, (fun R hR => by cases hR), i4', M_row.sto _ (by decide) (by decide), fun k h1 _ => updA_ne h1, fun x hx => (e3 x hx).trans (f4 x hx)⟩
        | some t =>
          rw [ht] at d1 d4
          have hM5 := d2.sto 11 (by decide) (by decide) (upd (a 11) (2 * r + w) (ii t))
          have hM6 := hM5.sto 10 (by decide) (by decide) (upd (a 10) r (ii (w + 1)))
          obtain ⟨s6, hs6⟩ : ∃ z, z = am_up (am_up s4 (m + 11) (.inl (mo_ty 11, mo_sz 11, .inl (upd (a 11) (2 * r + w) (ii t))))) (m + 10) (.inl (mo_ty 10, mo_sz 10, .inl (upd (a 10) r (ii (w + 1))))) := ⟨_, rfl⟩
          rw [← hs6] at hM6
          have f6 : ∀ x, x < m ∨ m + 25 ≤ x → s6 x = σ x := fun x hx => by rw [hs6, am_up_ne _ _ (by omega), am_up_ne _ _ (by omega)]; exact f4 x hx
          have hrow : M_row r a (updA (updA a 11 (upd (a 11) (2 * r + w) (ii t))) 10 (upd (a 10) r (ii (w + 1)))) := (M_row.sto11 (ii t) (show w < 2 by omega)).trans (M_row.sto (a := updA a 11 (upd (a 11) (2 * r + w) (ii t))) (ii (w + 1)) (by decide) (by decide))
          have w6 : updA (updA a 11 (upd (a 11) (2 * r + w) (ii t))) 10 (upd (a 10) r (ii (w + 1))) 10 r = ii (w + 1) := by rw [updA_eq, upd_eq]
          have t6 : ∀ j, j < w + 1 → updA (updA a 11 (upd (a 11) (2 * r + w) (ii t))) 10 (upd (a 10) r (ii (w + 1))) 11 (2 * r + j) = ii ((ts ++ [t]).getD j 0) := by
            intro j hj'
            rw [updA_ne (by decide), updA_eq, List.getD_eq_getElem?_getD]
            by_cases e : j = w
            · rw [e, upd_eq, List.getElem?_append_right (by omega), hts, Nat.sub_self]
              rfl
            · rw [upd_ne (by omega), List.getElem?_append_left (by omega), ← List.getD_eq_getElem?_getD]
              exact hj j (by omega)
          have B6 : M_buf i4 (updA (updA a 11 (upd (a 11) (2 * r + w) (ii t))) 10 (upd (a 10) r (ii (w + 1)))) txt := ⟨(i4' 2 (by decide)).trans hB.1, hB.2.1, fun j hj' => by rw [updA_ne (by decide), updA_ne (by decide)]; exact hB.2.2 j hj'⟩
          obtain ⟨s7, i7, a7, p7, k1, k2, k3, k4, k5, k6, k7, k8, k10, k9⟩ := ih (w + 1) (tkT txt q).2 s6 i4 _ (ts ++ [t]) (some (.int (ii t))) (by omega) (by rw [List.length_append, hts]; rfl) hM6 B6 d3 hl2 d4 w6 t6
          have en : (n == 2) = false := beq_eq_false_iff_ne.mpr (by omega)
          rw [en] at k5 k6
          refine ⟨s7, i7, a7, p7, go3 _ d1 _ ?_, k2, k3, k4, ?_, ?_, fun k hk => (k7 k hk).trans (i4' k hk), hrow.trans k8, fun k h1 h2 => by rw [k10 k h1 h2, updA_ne h1, updA_ne h2], fun x hx => (k9 x hx).trans (f6 x hx)⟩
          · refine x_n cd_i112_79 rfl rfl ?_
            show am_to cd_t _ _ 112 80 _ _ _ _ _ _
            refine x_getf cd_i112_80 d2.1 (congrArg (fun z => some (Value.int z)) (d4)) rfl ?_
            refine x_if_f cd_i112_83 (fun z => absurd (show (1 : Int32) = 0 from z) (by decide)) ?_
            refine x_n cd_i112_86 rfl rfl ?_
            refine x_getf cd_i112_87 d2.1 rfl rfl ?_
            refine x_ic cd_i112_90 (z := ii 2) rfl ?_
            refine x_n cd_i112_91 rfl rfl ?_
            refine x_imul cd_i112_92 (ii_mul _ _) ?_
            refine x_n cd_i112_93 rfl rfl ?_
            refine x_getf cd_i112_94 d2.1 rfl rfl ?_
            refine x_n cd_i112_97 rfl rfl ?_
            show am_to cd_t _ _ 112 98 _ _ _ _ _ _
            refine x_iald cd_i112_98 (d2.2 10 (by decide) (by decide)) (show _ < 66 by omega) (by decide) (hw) ?_
            refine x_iadd cd_i112_99 (ii_add _ _) ?_
            refine x_n cd_i112_100 rfl rfl ?_
            show am_to cd_t _ _ 112 101 _ _ _ _ _ _
            refine x_iastore cd_i112_101 (d2.2 11 (by decide) (by decide)) (show _ < 132 by omega) (by decide) ?_
            refine x_n cd_i112_102 rfl rfl ?_
            refine x_getf cd_i112_103 hM5.1 rfl rfl ?_
            refine x_n cd_i112_106 rfl rfl ?_
            refine x_n cd_i112_107 rfl rfl ?_
            show am_to cd_t _ _ 112 108 _ _ _ _ _ _
            refine x_iald cd_i112_108 (hM5.2 10 (by decide) (by decide)) (show _ < 66 by omega) (by decide) (hw) ?_
            refine x_ic cd_i112_109 (z := ii 1) rfl ?_
            refine x_iadd cd_i112_110 (ii_add _ _) ?_
            show am_to cd_t _ _ 112 111 _ _ _ _ _ _
            refine x_iastore cd_i112_111 (hM5.2 10 (by decide) (by decide)) (show _ < 66 by omega) (by decide) ?_
            refine hs6 ▸ ?_
            refine x_n cd_i112_112 rfl rfl ?_
            show am_to cd_t _ _ 112 13 _ _ _ _ _ _
            exact k1
          · rw [k5]
            dsimp only
            rw [Option.isSome_map]
          · intro R hR
            dsimp only at hR
            obtain ⟨R', hR', e⟩ := Option.map_eq_some_iff.mp hR
            obtain ⟨l1, l2, l3⟩ := k6 R' hR'
            rw [← e]
            refine ⟨l1, ?_, fun j hj' => ?_⟩
            · rw [l2]
              show _ = ii (w + (R'.1.length + 1))
              rw [Nat.add_assoc, Nat.add_comm 1]
            · have hj' : j < w + (R'.1.length + 1) := hj'
              rw [l3 j (by omega), List.append_assoc]
              rfl
/-- a list of parameters with its parenthesis -/
def pL (txt : List Nat) (p : Nat) : Option (List Nat × Nat) := if txt.getD p 0 = 40 then pPar txt (p + 1) else none
theorem m_readList {σ : am_H} {i : Nat → Int32} {a : Nat → Nat → Int32} {p : Nat} {g : Bool} (hd : 3 < d) (hT : ∀ c ∈ txt, cok c) (hr : r < 66) (hM : mo σ m i a) (hB : M_buf i a txt) (hP : M_at i p) (hp : p ≤ txt.length) (hG : i 4 = b2i g) :
    ∃ (σ' : am_H) (i' : Nat → Int32) (a' : Nat → Nat → Int32) (p' : Nat), am_to cd_t cs d 112 0 (am_ent 3 [.ref m, .int (ii r)]) [] σ top sl (.inl none, σ', top, sl) ∧ mo σ' m i' a' ∧ M_at i' p' ∧ p' ≤ txt.length ∧ i' 4 = b2i (g && (pL txt p).isSome) ∧ (g = true → ∀ R, pL txt p = some R → p' = R.2 ∧ a' 10 r = ii R.1.length ∧ ∀ j, j < R.1.length → a' 11 (2 * r + j) = ii (R.1.getD j 0)) ∧ (∀ k, k ∉ [3, 4] → i' k = i k) ∧ M_row r a a' ∧ (∀ k, k ≠ 10 → k ≠ 11 → a' k = a k) ∧ ∀ x, x < m ∨ m + 25 ≤ x → σ' x = σ x := by
  have hlen := hB.2.1
  have hM1 := hM.sto 10 (by decide) (by decide) (upd (a 10) r (ii 0))
  have B1 : M_buf i (updA a 10 (upd (a 10) r (ii 0))) txt := ⟨hB.1, hB.2.1, fun j hj => by rw [updA_ne (by decide)]; exact hB.2.2 j hj⟩
  obtain ⟨s1, hs1⟩ : ∃ z, z = am_up σ (m + 10) (.inl (mo_ty 10, mo_sz 10, .inl (upd (a 10) r (ii 0)))) := ⟨_, rfl⟩
  rw [← hs1] at hM1
  have f1 : ∀ x, x < m ∨ m + 25 ≤ x → s1 x = σ x := fun x hx => by rw [hs1, am_up_ne _ _ (by omega)]
  obtain ⟨s2, b1, b2, b3⟩ := m_expect (cs := cs) (d := d - 1) (top := top) (sl := sl) (c := 40) (g := g) (p := p) (by omega) hM1 B1 hP hG hT (by omega) (by decide)
  have go : ∀ res, am_to cd_t cs d 112 13 [some (.ref m), some (.int (ii r)), none] [] s2 top sl res → am_to cd_t cs d 112 0 (am_ent 3 [.ref m, .int (ii r)]) [] σ top sl res := by
    intro res hh
    refine x_n cd_i112_0 rfl rfl ?_
    refine x_getf cd_i112_1 hM.1 rfl rfl ?_
    refine x_n cd_i112_4 rfl rfl ?_
    refine x_ic cd_i112_5 (z := ii 0) rfl ?_
    show am_to cd_t _ _ 112 6 _ _ _ _ _ _
    refine x_iastore cd_i112_6 (hM.2 10 (by decide) (by decide)) (show _ < 66 by omega) (by decide) ?_
    refine hs1 ▸ ?_
    refine x_n cd_i112_7 rfl rfl ?_
    refine x_bi cd_i112_8 (z := ii 40) (by decide) ?_
    show am_to cd_t _ _ 112 10 _ _ _ _ _ _
    refine x_callv (as' := [.int (ii 40)]) (r := none) cd_i112_10 hM1.1 (by omega) rfl rfl rfl rfl rfl rfl (b1) ?_
    exact hh
  have hrow : M_row r a (updA a 10 (upd (a 10) r (ii 0))) := M_row.sto _ (by decide) (by decide)
  have bad : (g && (txt.getD p 0 == 40)) = false → ∃ (σ' : am_H) (i' : Nat → Int32) (a' : Nat → Nat → Int32) (p' : Nat), am_to cd_t cs d 112 0 (am_ent 3 [.ref m, .int (ii r)]) [] σ top sl (.inl none, σ', top, sl) ∧ mo σ' m i' a' ∧ M_at i' p' ∧ p' ≤ txt.length ∧ i' 4 = b2i false ∧ (∀ k, k ∉ [3, 4] → i' k = i k) ∧ M_row r a a' ∧ (∀ k, k ≠ 10 → k ≠ 11 → a' k = a k) ∧ ∀ x, x < m ∨ m + 25 ≤ x → σ' x = σ x := by
    intro hb
    rw [hb] at b2
    refine ⟨s2, _, _, if txt.getD p 0 = 40 then p + 1 else p, go _ ?_, b2, rfl, ?_, rfl, fun k hk => ?_, hrow, fun k h1 _ => updA_ne h1, fun x hx => (b3 x hx).trans (f1 x hx)⟩
    · refine x_n cd_i112_13 rfl rfl ?_
      show am_to cd_t _ _ 112 14 _ _ _ _ _ _
      refine x_getf cd_i112_14 b2.1 (congrArg (fun z => some (Value.int z)) (rfl)) rfl ?_
      refine x_if_t cd_i112_17 rfl ?_
      exact x_end cd_i112_115 rfl rfl rfl
    · split
      · next h => exact getD_lt h (by decide)
      · exact hp
    · have h3 : k ≠ 3 := fun z => hk (by rw [z]; decide)
      have h4 : k ≠ 4 := fun z => hk (by rw [z]; decide)
      rw [upd_ne h4, upd_ne h3]
  unfold pL
  cases g with
  | false =>
    obtain ⟨s3, i3, a3, p3, k1, k2, k3, k4, k5, k6, k7, k8, k9⟩ := bad rfl
    exact ⟨s3, i3, a3, p3, k1, k2, k3, k4, k5, (fun h => by cases h), k6, k7, k8, k9⟩
  | true =>
    by_cases hc : txt.getD p 0 = 40
    · have hlt := getD_lt hc (by decide)
      rw [if_pos hc] at b2 ⊢
      rw [beq_iff_eq.mpr hc] at b2
      have B2 : M_buf (upd (upd i 3 (ii (p + 1))) 4 (b2i true)) (updA a 10 (upd (a 10) r (ii 0))) txt := B1
      obtain ⟨s3, i3, a3, p3, k1, k2, k3, k4, k5, k6, k7, k8, k9, k10⟩ := m_list_loop (cs := cs) (d := d) (m := m) (top := top) (sl := sl) hd hT hr 2 0 (p + 1) s2 _ _ [] none rfl rfl b2 B2 rfl (by omega) rfl (by rw [updA_eq, upd_eq]) (fun j hj => absurd hj (Nat.not_lt_zero j))
      rw [pPar_eq]
      refine ⟨s3, i3, a3, p3, go _ k1, k2, k3, k4, k5, fun _ R hR => ?_, fun k hk => ?_, hrow.trans k8, fun k h1 h2 => (k9 k h1 h2).trans (updA_ne h1), fun x hx => (k10 x hx).trans ((b3 x hx).trans (f1 x hx))⟩
      · obtain ⟨l1, l2, l3⟩ := k6 R hR
        rw [Nat.zero_add] at l2 l3
        exact ⟨l1, l2, l3⟩
      · have h3 : k ≠ 3 := fun z => hk (by rw [z]; decide)
        have h4 : k ≠ 4 := fun z => hk (by rw [z]; decide)
        rw [k7 k hk, upd_ne h4, upd_ne h3]
    · rw [if_neg hc]
      obtain ⟨s3, i3, a3, p3, k1, k2, k3, k4, k5, k6, k7, k8, k9⟩ := bad (by rw [beq_eq_false_iff_ne.mpr hc]; rfl)
      exact ⟨s3, i3, a3, p3, k1, k2, k3, k4, k5, (fun _ R h => by cases h), k6, k7, k8, k9⟩
end ML
