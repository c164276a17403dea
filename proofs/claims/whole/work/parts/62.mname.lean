theorem n27_lt : ∀ (l : List Nat) (v : Nat), (∀ c ∈ l, 97 ≤ c ∧ c ≤ 122) → l.foldl (fun v c => v * 27 + (c - 96)) v < (v + 1) * 27 ^ l.length
  | [], v, h => by
    show v < (v + 1) * 1
    omega
  | c :: l, v, h => by
    have h1 := n27_lt l (v * 27 + (c - 96)) (fun x hx => h x (List.mem_cons_of_mem _ hx))
    have h2 := h c List.mem_cons_self
    show l.foldl _ (v * 27 + (c - 96)) < _
    rw [List.length_cons, Nat.pow_succ]
    have h3 : (v * 27 + (c - 96) + 1) * 27 ^ l.length ≤ ((v + 1) * 27) * 27 ^ l.length := Nat.mul_le_mul_right _ (by omega)
    rw [Nat.mul_assoc, Nat.mul_comm 27] at h3
    omega
theorem n27_small {l : List Nat} (h : ∀ c ∈ l, 97 ≤ c ∧ c ≤ 122) (hl : l.length ≤ 4) : n27 l < 531442 := by
  have h1 := n27_lt l 0 h
  have h2 : 27 ^ l.length ≤ 27 ^ 4 := Nat.pow_le_pow_right (by decide) hl
  have h3 : 27 ^ 4 = 531441 := by decide
  unfold n27
  omega
theorem wv27_small (txt : List Nat) (p : Nat) : wv27 txt p < 531442 := by
  unfold wv27
  split
  · next h => exact n27_small wl_low h
  · decide
theorem isR27_eq {l : List Nat} (h : ∀ c ∈ l, 97 ≤ c ∧ c ≤ 122) : isR27 (n27 l) = isRes l := by
  have key : ∀ w : List Nat, (∀ c ∈ w, 97 ≤ c ∧ c ≤ 122) → (n27 l == n27 w) = (l == w) := by
    intro w hw
    by_cases e : l = w
    · rw [e, beq_self_eq_true, beq_self_eq_true]
    · rw [beq_eq_false_iff_ne.mpr e, beq_eq_false_iff_ne.mpr (fun z => e (n27_inj h hw z))]
  unfold isR27 isRes
  rw [key _ (by decide), key _ (by decide), key _ (by decide), key _ (by decide)]
/-- a name is there where the reference's number says so -/
theorem name27 (txt : List Nat) (p : Nat) : (decide (0 < wv27 txt p) && !isR27 (wv27 txt p)) = (tkN txt p).isSome := by
  unfold wv27 tkN
  by_cases h4 : (wl txt p).length ≤ 4
  · rw [if_pos h4, isR27_eq wl_low]
    by_cases h1 : 1 ≤ (wl txt p).length
    · have hpos : 0 < n27 (wl txt p) := by
        rcases Nat.eq_zero_or_pos (n27 (wl txt p)) with h0 | h0
        · have : wl txt p = [] := n27_inj wl_low (fun c hc => by cases hc) h0
          rw [this] at h1
          exact absurd h1 (by decide)
        · exact h0
      rw [decide_eq_true hpos, Bool.true_and]
      cases hr : isRes (wl txt p) with
      | true =>
        rw [if_neg (fun z => by cases z.2.2)]
        rfl
      | false =>
        rw [if_pos ⟨h1, h4, rfl⟩]
        rfl
    · have : wl txt p = [] := List.length_eq_zero_iff.mp (by omega)
      rw [if_neg (fun z => h1 z.1), this]
      rfl
  · rw [if_neg h4, if_neg (fun z => h4 z.2.1)]
    rfl
section MN
variable {cs : Nat → Value} {d m top sl : Nat} {σ : am_H} {i : Nat → Int32} {a : Nat → Nat → Int32} {txt : List Nat} {p : Nat} {g : Bool}
theorem m_readName (hd : 1 < d) (hT : ∀ c ∈ txt, cok c) (hM : mo σ m i a) (hB : M_buf i a txt) (hP : M_at i p) (hG : i 4 = b2i g) (hp : p < 1000) :
    ∃ (σ' : am_H) (i' : Nat → Int32), am_to cd_t cs d 117 0 (am_ent 2 [.ref m]) [] σ top sl (.inl (some (.int (ii (wv27 txt p)))), σ', top, sl) ∧ mo σ' m i' a ∧ M_at i' (p + (wl txt p).length) ∧ i' 4 = b2i (g && (tkN txt p).isSome) ∧ M_same [3, 4] [] i i' a a ∧ ∀ x, x < m ∨ m + 25 ≤ x → σ' x = σ x := by
  obtain ⟨s1, i1, a1, a2, a3, a4, a5⟩ := m_letters (cs := cs) (d := d - 1) (top := top) (sl := sl) (by omega) hT hM hB hP hp
  obtain ⟨s2, b1, b2, b3⟩ := m_must (cs := cs) (d := d - 1) (top := top) (sl := sl) (s := (tkN txt p).isSome) (g := g) a2 ((a4.1 4 (by decide)).trans hG)
  have hsm := wv27_small txt p
  refine ⟨s2, _, ?_, b2, a3, rfl, (a4.wide (by decide) (by decide)).trans (M_same.num _ 4 _ (by decide)), fun x hx => (b3 x hx).trans (a5 x hx)⟩
  have fin : ∀ z : Int32, z = b2i (tkN txt p).isSome → am_to cd_t cs d 117 22 [some (.ref m), some (.int (ii (wv27 txt p)))] [.int z, .ref m] s1 top sl (.inl (some (.int (ii (wv27 txt p)))), s2, top, sl) := by
    intro z hz
    rw [hz]
    refine x_callv (as' := [.int (b2i (tkN txt p).isSome)]) (r := none) cd_i117_22 a2.1 (by omega) rfl rfl rfl rfl rfl rfl b1 ?_
    refine x_n cd_i117_25 rfl rfl ?_
    show am_to cd_t _ _ 117 26 _ _ _ _ _ _
    exact x_end cd_i117_26 rfl rfl rfl
  have hn := name27 txt p
  refine x_n cd_i117_0 rfl rfl ?_
  show am_to cd_t _ _ 117 1 _ _ _ _ _ _
  refine x_callv (as' := []) cd_i117_1 hM.1 (by omega) rfl rfl rfl rfl rfl rfl a1 ?_
  refine x_n cd_i117_4 rfl rfl ?_
  try dsimp only [List.set]
  refine x_n cd_i117_5 rfl rfl ?_
  refine x_n cd_i117_6 rfl rfl ?_
  show am_to cd_t _ _ 117 7 _ _ _ _ _ _
  by_cases h0 : 0 < wv27 txt p
  · rw [decide_eq_true h0, Bool.true_and] at hn
    refine x_if_f cd_i117_7 (fun z => by have := (ii_le (b := 0) (by omega) (by decide)).mp z; omega) ?_
    refine x_n cd_i117_10 rfl rfl ?_
    show am_to cd_t _ _ 117 11 _ _ _ _ _ _
    refine x_calls (as := [.int (ii (wv27 txt p))]) cd_i117_11 (by omega) rfl rfl rfl rfl rfl rfl (m_isWord (by omega) (by omega)) ?_
    cases hr : isR27 (wv27 txt p) with
    | true =>
      rw [hr] at hn
      refine x_if_t cd_i117_14 (fun z => absurd (show (1 : Int32) = 0 from z) (by decide)) ?_
      refine x_ic cd_i117_21 (z := ii 0) rfl ?_
      show am_to cd_t _ _ 117 22 _ _ _ _ _ _
      exact fin _ (by rw [← hn]; rfl)
    | false =>
      rw [hr] at hn
      refine x_if_f cd_i117_14 (fun z => z rfl) ?_
      refine x_ic cd_i117_17 (z := ii 1) rfl ?_
      refine x_n cd_i117_18 rfl rfl ?_
      show am_to cd_t _ _ 117 22 _ _ _ _ _ _
      exact fin _ (by rw [← hn]; rfl)
  · rw [decide_eq_false h0, Bool.false_and] at hn
    refine x_if_t cd_i117_7 ((ii_le (b := 0) (by omega) (by decide)).mpr (by omega)) ?_
    refine x_ic cd_i117_21 (z := ii 0) rfl ?_
    show am_to cd_t _ _ 117 22 _ _ _ _ _ _
    exact fin _ (by rw [← hn]; rfl)
end MN
