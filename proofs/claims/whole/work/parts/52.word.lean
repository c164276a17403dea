/-! words, names, types: the desk's buffer -/
def wv (txt : List Nat) (p : Nat) : Nat := if (wl txt p).length ≤ 4 then n256 (wl txt p) else 0
/-- the words that are no names -/
def isRes (w : List Nat) : Bool := w == [110, 101, 119] || w == [105, 110, 116] || w == [108, 111, 110, 103] || w == [98, 111, 111, 108]
/-- a name at a place -/
def tkN (txt : List Nat) (p : Nat) : Option (List Nat) := if 1 ≤ (wl txt p).length ∧ (wl txt p).length ≤ 4 ∧ isRes (wl txt p) = false then some (wl txt p) else none
/-- a type at a place, and the place behind what was read -/
def tkT (txt : List Nat) (p : Nat) : Option Nat × Nat := match (tkC txt p).1 with
  | some c => (some (3 + c), p + 1)
  | none => (if wl txt p = [105, 110, 116] then some 0 else if wl txt p = [108, 111, 110, 103] then some 1 else if wl txt p = [98, 111, 111, 108] then some 2 else none, p + (wl txt p).length)
section WX
variable {cs : Nat → Value} {d b top sl : Nat} {txt : List Nat}
theorem x_word_loop {s0 : Nat} (hT : ∀ c ∈ txt, cok c) : ∀ (n q v : Nat) (wd : Int32) (v3 : Option Value) (σ : am_H), q + n = txt.length → s0 ≤ q → X_buf σ b txt q → (q - s0 ≤ 4 → wd = ii v ∧ v < 256 ^ (q - s0)) →
    ∃ σ', am_to cd_t cs d 51 7 [some (.ref (b + 1)), some (.int (ii s0)), some (.int wd), v3] [] σ top sl (.inl (some (.int (if q - s0 + (wl txt q).length ≤ 4 then ii ((wl txt q).foldl (fun v c => v * 256 + c) v) else 0))), σ', top, sl) ∧ X_buf σ' b txt (q + (wl txt q).length) ∧ ∀ x, x ≠ b + 1 → σ' x = σ x := by
  intro n
  induction n with
  | zero =>
    intro q v wd v3 σ hq hs h hv
    have h1 := h.1
    have hlen := h.2.1
    have hw : wl txt q = [] := wl_end (by rw [getD_out (by omega)]; decide)
    rw [hw]
    refine ⟨σ, ?_, h, fun _ _ => rfl⟩
    refine x_n cd_i51_7 rfl rfl ?_
    refine x_getf cd_i51_8 (by assumption) rfl rfl ?_
    refine x_n cd_i51_11 rfl rfl ?_
    refine x_getf cd_i51_12 (by assumption) rfl rfl ?_
    show am_to cd_t _ _ 51 15 _ _ _ _ _ _
    refine x_icmp_t cd_i51_15 ((ii_le (by omega) (by omega)).mpr (by omega)) ?_
    refine x_n cd_i51_63 rfl rfl ?_
    refine x_getf cd_i51_64 (by assumption) rfl rfl ?_
    refine x_n cd_i51_67 rfl rfl ?_
    show am_to cd_t _ _ 51 68 _ _ _ _ _ _
    refine x_isub cd_i51_68 (z := ii (q - s0)) (ii_sub hs) ?_
    refine x_ic cd_i51_69 (z := ii 4) rfl ?_
    show am_to cd_t _ _ 51 70 _ _ _ _ _ _
    by_cases hk : q - s0 ≤ 4
    · rw [if_pos (show q - s0 + ([] : List Nat).length ≤ 4 by rw [List.length_nil]; omega)]
      refine x_icmp_f cd_i51_70 (fun z => by have := (ii_lt (by decide) (by omega)).mp (show ii 4 < ii (q - s0) from z); omega) ?_
      refine x_n cd_i51_73 rfl rfl ?_
      refine x_n cd_i51_74 rfl rfl ?_
      show am_to cd_t _ _ 51 78 _ _ _ _ _ _
      rw [(hv hk).1]
      exact x_end cd_i51_78 rfl rfl rfl
    · rw [if_neg (show ¬ q - s0 + ([] : List Nat).length ≤ 4 by rw [List.length_nil]; omega)]
      refine x_icmp_t cd_i51_70 ((ii_lt (by decide) (by omega)).mpr (by omega)) ?_
      refine x_ic cd_i51_77 (z := ii 0) rfl ?_
      show am_to cd_t _ _ 51 78 _ _ _ _ _ _
      exact x_end cd_i51_78 rfl rfl rfl
  | succ n ih =>
    intro q v wd v3 σ hq hs h hv
    have h1 := h.1
    obtain ⟨-, hlen, f, h3, h4⟩ := id h
    have hl := getD_cok hT q
    have hlt : q < txt.length := by omega
    by_cases hlow : low (txt.getD q 0) = true
    · have hl2 : 97 ≤ txt.getD q 0 ∧ txt.getD q 0 ≤ 122 := by
        unfold low at hlow
        simpa using hlow
      obtain ⟨σ', k1, k2, k3⟩ := ih (q + 1) (v * 256 + txt.getD q 0) ((wd <<< (ii 8 &&& 31)) ||| ii (txt.getD q 0)) (some (.int (ii (txt.getD q 0)))) _ (by omega) (by omega) (h.at (q + 1)) (fun hk => by
        obtain ⟨e1, e2⟩ := hv (by omega)
        have e3 : v < 16777216 := Nat.lt_of_lt_of_le e2 (Nat.pow_le_pow_right (by decide) (show q - s0 ≤ 3 by omega))
        refine ⟨by rw [e1]; exact shl_or e3 (by omega), ?_⟩
        rw [show q + 1 - s0 = q - s0 + 1 by omega, Nat.pow_succ]
        omega)
      rw [wl_cons hlt hlow]
      rw [show q + (txt.getD q 0 :: wl txt (q + 1)).length = q + 1 + (wl txt (q + 1)).length by rw [List.length_cons]; omega, show q - s0 + (txt.getD q 0 :: wl txt (q + 1)).length = q + 1 - s0 + (wl txt (q + 1)).length by rw [List.length_cons]; omega]
      refine ⟨σ', ?_, k2, fun x hx => (k3 x hx).trans (am_up_ne _ _ hx)⟩
      refine x_n cd_i51_7 rfl rfl ?_
      refine x_getf cd_i51_8 (by assumption) rfl rfl ?_
      refine x_n cd_i51_11 rfl rfl ?_
      refine x_getf cd_i51_12 (by assumption) rfl rfl ?_
      show am_to cd_t _ _ 51 15 _ _ _ _ _ _
      refine x_icmp_f cd_i51_15 (fun z => by have := (ii_le (by omega) (by omega)).mp (show ii txt.length ≤ ii q from z); omega) ?_
      refine x_n cd_i51_18 rfl rfl ?_
      refine x_getf cd_i51_19 (by assumption) rfl rfl ?_
      refine x_n cd_i51_22 rfl rfl ?_
      refine x_getf cd_i51_23 (by assumption) rfl rfl ?_
      show am_to cd_t _ _ 51 26 _ _ _ _ _ _
      refine x_caload cd_i51_26 h3 (by omega) (by decide) ?_
      rw [h4 q hlt]
      refine x_n cd_i51_27 rfl rfl ?_
      try dsimp only [List.set]
      refine x_n cd_i51_28 rfl rfl ?_
      refine x_bi cd_i51_29 (z := ii 97) (by decide) ?_
      show am_to cd_t _ _ 51 31 _ _ _ _ _ _
      refine x_icmp_f cd_i51_31 (fun z => by have := (ii_lt (by omega) (by decide)).mp (show ii (txt.getD q 0) < ii 97 from z); omega) ?_
      refine x_n cd_i51_34 rfl rfl ?_
      refine x_bi cd_i51_35 (z := ii 122) (by decide) ?_
      show am_to cd_t _ _ 51 37 _ _ _ _ _ _
      refine x_icmp_t cd_i51_37 ((ii_le (by omega) (by decide)).mpr hl2.2) ?_
      refine x_n cd_i51_43 rfl rfl ?_
      refine x_bi cd_i51_44 (z := ii 8) (by decide) ?_
      refine x_ishl cd_i51_46 rfl ?_
      refine x_n cd_i51_47 rfl rfl ?_
      refine x_ior cd_i51_48 rfl ?_
      refine x_n cd_i51_49 rfl rfl ?_
      try dsimp only [List.set]
      refine x_n cd_i51_50 rfl rfl ?_
      refine x_n cd_i51_51 rfl rfl ?_
      refine x_getf cd_i51_52 (by assumption) rfl rfl ?_
      refine x_ic cd_i51_55 (z := ii 1) rfl ?_
      show am_to cd_t _ _ 51 56 _ _ _ _ _ _
      refine x_iadd cd_i51_56 (z := ii (q + 1)) (ii_add _ _) ?_
      refine x_putf cd_i51_57 (fs' := [.ref (b + 2), .int (ii txt.length), .int (ii (q + 1))]) h1 rfl rfl rfl ?_
      refine x_n cd_i51_60 rfl rfl ?_
      show am_to cd_t _ _ 51 7 _ _ _ _ _ _
      exact k1
    · rw [wl_end hlow]
      refine ⟨σ, ?_, h, fun _ _ => rfl⟩
      have hl2 : ¬ (97 ≤ txt.getD q 0 ∧ txt.getD q 0 ≤ 122) := by
        intro z
        apply hlow
        unfold low
        simpa using z
      have fin : ∀ v3, am_to cd_t cs d 51 63 [some (.ref (b + 1)), some (.int (ii s0)), some (.int wd), v3] [] σ top sl (.inl (some (.int (if q - s0 + ([] : List Nat).length ≤ 4 then ii (([] : List Nat).foldl (fun v c => v * 256 + c) v) else 0))), σ, top, sl) := by
        intro v3
        refine x_n cd_i51_63 rfl rfl ?_
        refine x_getf cd_i51_64 (by assumption) rfl rfl ?_
        refine x_n cd_i51_67 rfl rfl ?_
        show am_to cd_t _ _ 51 68 _ _ _ _ _ _
        refine x_isub cd_i51_68 (z := ii (q - s0)) (ii_sub hs) ?_
        refine x_ic cd_i51_69 (z := ii 4) rfl ?_
        show am_to cd_t _ _ 51 70 _ _ _ _ _ _
        by_cases hk : q - s0 ≤ 4
        · rw [if_pos (show q - s0 + ([] : List Nat).length ≤ 4 by rw [List.length_nil]; omega)]
          refine x_icmp_f cd_i51_70 (fun z => by have := (ii_lt (by decide) (by omega)).mp (show ii 4 < ii (q - s0) from z); omega) ?_
          refine x_n cd_i51_73 rfl rfl ?_
          refine x_n cd_i51_74 rfl rfl ?_
          show am_to cd_t _ _ 51 78 _ _ _ _ _ _
          rw [(hv hk).1]
          exact x_end cd_i51_78 rfl rfl rfl
        · rw [if_neg (show ¬ q - s0 + ([] : List Nat).length ≤ 4 by rw [List.length_nil]; omega)]
          refine x_icmp_t cd_i51_70 ((ii_lt (by decide) (by omega)).mpr (by omega)) ?_
          refine x_ic cd_i51_77 (z := ii 0) rfl ?_
          show am_to cd_t _ _ 51 78 _ _ _ _ _ _
          exact x_end cd_i51_78 rfl rfl rfl
      refine x_n cd_i51_7 rfl rfl ?_
      refine x_getf cd_i51_8 (by assumption) rfl rfl ?_
      refine x_n cd_i51_11 rfl rfl ?_
      refine x_getf cd_i51_12 (by assumption) rfl rfl ?_
      show am_to cd_t _ _ 51 15 _ _ _ _ _ _
      refine x_icmp_f cd_i51_15 (fun z => by have := (ii_le (by omega) (by omega)).mp (show ii txt.length ≤ ii q from z); omega) ?_
      refine x_n cd_i51_18 rfl rfl ?_
      refine x_getf cd_i51_19 (by assumption) rfl rfl ?_
      refine x_n cd_i51_22 rfl rfl ?_
      refine x_getf cd_i51_23 (by assumption) rfl rfl ?_
      show am_to cd_t _ _ 51 26 _ _ _ _ _ _
      refine x_caload cd_i51_26 h3 (by omega) (by decide) ?_
      rw [h4 q hlt]
      refine x_n cd_i51_27 rfl rfl ?_
      try dsimp only [List.set]
      refine x_n cd_i51_28 rfl rfl ?_
      refine x_bi cd_i51_29 (z := ii 97) (by decide) ?_
      show am_to cd_t _ _ 51 31 _ _ _ _ _ _
      refine x_icmp cd_i51_31 (fun z => fin _) (fun z => ?_)
      have z1 := mt (ii_lt (by omega) (by decide)).mpr (show ¬ ii (txt.getD q 0) < ii 97 from z)
      refine x_n cd_i51_34 rfl rfl ?_
      refine x_bi cd_i51_35 (z := ii 122) (by decide) ?_
      show am_to cd_t _ _ 51 37 _ _ _ _ _ _
      refine x_icmp_f cd_i51_37 (fun y => hl2 ⟨by omega, (ii_le (by omega) (by decide)).mp y⟩) ?_
      refine x_n cd_i51_40 rfl rfl ?_
      show am_to cd_t _ _ 51 63 _ _ _ _ _ _
      exact fin _
theorem x_takeWord {σ : am_H} {p : Nat} (hT : ∀ c ∈ txt, cok c) (h : X_buf σ b txt p) (hp : p ≤ txt.length) : ∃ σ', am_to cd_t cs d 51 0 (am_ent 4 [.ref (b + 1)]) [] σ top sl (.inl (some (.int (ii (wv txt p)))), σ', top, sl) ∧ X_buf σ' b txt (p + (wl txt p).length) ∧ ∀ x, x ≠ b + 1 → σ' x = σ x := by
  have h1 := h.1
  obtain ⟨σ', k1, k2, k3⟩ := x_word_loop (cs := cs) (d := d) (b := b) (top := top) (sl := sl) (s0 := p) hT (txt.length - p) p 0 (ii 0) none σ (by omega) (Nat.le_refl _) h (fun _ => ⟨rfl, by rw [Nat.sub_self]; decide⟩)
  refine ⟨σ', ?_, k2, k3⟩
  refine x_n cd_i51_0 rfl rfl ?_
  refine x_getf cd_i51_1 (by assumption) rfl rfl ?_
  refine x_n cd_i51_4 rfl rfl ?_
  try dsimp only [List.set]
  refine x_ic cd_i51_5 (z := ii 0) rfl ?_
  refine x_n cd_i51_6 rfl rfl ?_
  try dsimp only [List.set]
  show am_to cd_t _ _ 51 7 _ _ _ _ _ _
  rw [Nat.sub_self, Nat.zero_add] at k1
  unfold wv
  by_cases hk : (wl txt p).length ≤ 4
  · rw [if_pos hk] at k1 ⊢
    exact k1
  · rw [if_neg hk] at k1 ⊢
    exact k1
/-- small letters, four at most: the number tells them -/
theorem n256_lt : ∀ (l : List Nat) (v : Nat), (∀ c ∈ l, c < 256) → l.foldl (fun v c => v * 256 + c) v < (v + 1) * 256 ^ l.length
  | [], v, h => by
    show v < (v + 1) * 1
    omega
  | c :: l, v, h => by
    have h1 := n256_lt l (v * 256 + c) (fun x hx => h x (List.mem_cons_of_mem _ hx))
    have h2 := h c List.mem_cons_self
    show l.foldl _ (v * 256 + c) < _
    rw [List.length_cons, Nat.pow_succ]
    have h3 : (v * 256 + c + 1) * 256 ^ l.length ≤ ((v + 1) * 256) * 256 ^ l.length := Nat.mul_le_mul_right _ (by omega)
    rw [Nat.mul_assoc, Nat.mul_comm 256] at h3
    omega
end WX
