section PM
variable {cs : Nat → Value} {d m top sl : Nat}
theorem m_outside {σ : am_H} {v lo hi : Int32} : am_to cd_t cs d 101 0 (am_ent 3 [.int v, .int lo, .int hi]) [] σ top sl (.inl (some (.int (if v < lo ∨ hi < v then 1 else 0))), σ, top, sl) := by
  refine x_n cd_i101_0 rfl rfl ?_
  refine x_n cd_i101_1 rfl rfl ?_
  show am_to cd_t _ _ 101 2 _ _ _ _ _ _
  refine x_icmp cd_i101_2 (fun z => ?_) (fun z => ?_)
  · rw [if_pos (Or.inl (show v < lo from z))]
    refine x_ic cd_i101_10 (z := ii 1) rfl ?_
    refine x_n cd_i101_11 rfl rfl ?_
    show am_to cd_t _ _ 101 15 _ _ _ _ _ _
    exact x_end cd_i101_15 rfl rfl rfl
  · refine x_n cd_i101_5 rfl rfl ?_
    refine x_n cd_i101_6 rfl rfl ?_
    show am_to cd_t _ _ 101 7 _ _ _ _ _ _
    refine x_icmp cd_i101_7 (fun y => ?_) (fun y => ?_)
    · rw [if_neg (fun h => h.elim (fun h3 => z h3) (fun h2 => absurd (show v ≤ hi from y) (Int32.not_le.mpr h2)))]
      refine x_ic cd_i101_14 (z := ii 0) rfl ?_
      show am_to cd_t _ _ 101 15 _ _ _ _ _ _
      exact x_end cd_i101_15 rfl rfl rfl
    · rw [if_pos (Or.inr (Int32.not_le.mp y))]
      refine x_ic cd_i101_10 (z := ii 1) rfl ?_
      refine x_n cd_i101_11 rfl rfl ?_
      show am_to cd_t _ _ 101 15 _ _ _ _ _ _
      exact x_end cd_i101_15 rfl rfl rfl
/-- the reference's buffer holds txt -/
def M_buf (i : Nat → Int32) (a : Nat → Nat → Int32) (txt : List Nat) : Prop := i 2 = ii txt.length ∧ txt.length ≤ 120 ∧ ∀ j, j < txt.length → a 1 j = ii (txt.getD j 0)
/-- what of the numbers and arrays a call leaves as it is -/
def M_same (I A : List Nat) (i i' : Nat → Int32) (a a' : Nat → Nat → Int32) : Prop := (∀ k, k ∉ I → i' k = i k) ∧ ∀ k, k ∉ A → a' k = a k
theorem m_put_loop1 {σ : am_H} {n : Nat} {w : Int32} (hd : 0 < d) (hn : n ≤ 4) : ∀ (k j : Nat), j + k = n → (∀ q, q < j → cok (cn w q)) →
    ((∀ q, q < n → cok (cn w q)) ∧ ∀ res, am_to cd_t cs d 100 62 [some (.ref m), some (.int w), some (.int (ii n)), some (.int (ii n))] [] σ top sl res → am_to cd_t cs d 100 29 [some (.ref m), some (.int w), some (.int (ii n)), some (.int (ii j))] [] σ top sl res) ∨
    ((¬ ∀ q, q < n → cok (cn w q)) ∧ am_to cd_t cs d 100 29 [some (.ref m), some (.int w), some (.int (ii n)), some (.int (ii j))] [] σ top sl (.inl (some (.int 0)), σ, top, sl))
  | 0, j, hj, hq => by
    obtain rfl : j = n := by omega
    refine Or.inl ⟨hq, fun res h => ?_⟩
    refine x_n cd_i100_29 rfl rfl ?_
    refine x_n cd_i100_30 rfl rfl ?_
    show am_to cd_t _ _ 100 31 _ _ _ _ _ _
    exact x_icmp_t cd_i100_31 ((ii_le (by omega) (by omega)).mpr (Nat.le_refl _)) h
  | k + 1, j, hj, hq => by
    have hs : w >>> (ii 8 * ii j &&& 31) &&& ii 255 = ii (cn w j) := by rw [ii_mul, cn_ii]
    have hl := cn_lt w j
    have hcmp : ¬ am_cp .ge (ii j) (ii n) := fun z => by have := (ii_le (by omega) (by omega)).mp (show ii n ≤ ii j from z); omega
    by_cases hc : cok (cn w j)
    · have key : ∀ res, am_to cd_t cs d 100 29 [some (.ref m), some (.int w), some (.int (ii n)), some (.int (ii (j + 1)))] [] σ top sl res → am_to cd_t cs d 100 29 [some (.ref m), some (.int w), some (.int (ii n)), some (.int (ii j))] [] σ top sl res := by
        intro res h
        refine x_n cd_i100_29 rfl rfl ?_
        refine x_n cd_i100_30 rfl rfl ?_
        show am_to cd_t _ _ 100 31 _ _ _ _ _ _
        refine x_icmp_f cd_i100_31 hcmp ?_
        refine x_n cd_i100_34 rfl rfl ?_
        refine x_bi cd_i100_35 (z := ii 8) (by decide) ?_
        refine x_n cd_i100_37 rfl rfl ?_
        refine x_imul cd_i100_38 rfl ?_
        refine x_ishr cd_i100_39 rfl ?_
        refine x_si cd_i100_40 (z := ii 255) (by decide) ?_
        show am_to cd_t _ _ 100 43 _ _ _ _ _ _
        refine x_iand cd_i100_43 hs ?_
        refine x_bi cd_i100_44 (z := ii 32) (by decide) ?_
        refine x_bi cd_i100_46 (z := ii 126) (by decide) ?_
        show am_to cd_t _ _ 100 48 _ _ _ _ _ _
        refine x_calls (as := [.int (ii (cn w j)), .int (ii 32), .int (ii 126)]) cd_i100_48 hd rfl rfl rfl rfl rfl rfl m_outside ?_
        rw [if_neg (fun h => by rcases h with h | h; have := (ii_lt (by omega) (by decide)).mp h; have := hc.1; omega; have := (ii_lt (by decide) (by omega)).mp h; have := hc.2; omega)]
        refine x_if_t cd_i100_51 rfl ?_
        refine x_iinc cd_i100_56 rfl (z := ii (j + 1)) (ii_add j 1) rfl ?_
        refine x_n cd_i100_59 rfl rfl ?_
        show am_to cd_t _ _ 100 29 _ _ _ _ _ _
        exact h
      rcases m_put_loop1 hd hn k (j + 1) (by omega) (fun q h => by
        by_cases e : q = j
        · rw [e]; exact hc
        · exact hq q (by omega)) with ⟨h1, h2⟩ | ⟨h1, h2⟩
      · exact Or.inl ⟨h1, fun res h => key res (h2 res h)⟩
      · exact Or.inr ⟨h1, key _ h2⟩
    · refine Or.inr ⟨fun h => hc (h j (by omega)), ?_⟩
      refine x_n cd_i100_29 rfl rfl ?_
      refine x_n cd_i100_30 rfl rfl ?_
      show am_to cd_t _ _ 100 31 _ _ _ _ _ _
      refine x_icmp_f cd_i100_31 hcmp ?_
      refine x_n cd_i100_34 rfl rfl ?_
      refine x_bi cd_i100_35 (z := ii 8) (by decide) ?_
      refine x_n cd_i100_37 rfl rfl ?_
      refine x_imul cd_i100_38 rfl ?_
      refine x_ishr cd_i100_39 rfl ?_
      refine x_si cd_i100_40 (z := ii 255) (by decide) ?_
      show am_to cd_t _ _ 100 43 _ _ _ _ _ _
      refine x_iand cd_i100_43 hs ?_
      refine x_bi cd_i100_44 (z := ii 32) (by decide) ?_
      refine x_bi cd_i100_46 (z := ii 126) (by decide) ?_
      show am_to cd_t _ _ 100 48 _ _ _ _ _ _
      refine x_calls (as := [.int (ii (cn w j)), .int (ii 32), .int (ii 126)]) cd_i100_48 hd rfl rfl rfl rfl rfl rfl m_outside ?_
      rw [if_pos (by
        by_cases h1 : 32 ≤ cn w j
        · exact Or.inr ((ii_lt (by decide) (by omega)).mpr (by
            by_cases h2 : cn w j ≤ 126
            · exact absurd ⟨h1, h2⟩ hc
            · omega))
        · exact Or.inl ((ii_lt (by omega) (by decide)).mpr (by omega)))]
      refine x_if_f cd_i100_51 (fun z => absurd (show (1 : Int32) = 0 from z) (by decide)) ?_
      refine x_ic cd_i100_54 (z := ii 0) rfl ?_
      show am_to cd_t _ _ 100 55 _ _ _ _ _ _
      exact x_end cd_i100_55 rfl rfl rfl
theorem m_put_loop2 {n : Nat} {w : Int32} (hn : n ≤ 4) : ∀ (j : Nat) (txt : List Nat) (σ : am_H) (i : Nat → Int32) (a : Nat → Nat → Int32), j ≤ n → txt.length + j ≤ 120 → mo σ m i a → M_buf i a txt →
    ∃ (σ' : am_H) (i' : Nat → Int32) (a' : Nat → Nat → Int32), mo σ' m i' a' ∧ M_buf i' a' (txt ++ (List.range j).map (fun q => cn w (j - 1 - q))) ∧ M_same [2] [1] i i' a a' ∧ (∀ q, q < m ∨ m + 25 ≤ q → σ' q = σ q) ∧
      am_to cd_t cs d 100 66 [some (.ref m), some (.int w), some (.int (ii n)), some (.int (ii j + -1))] [] σ top sl (.inl (some (.int 1)), σ', top, sl)
  | 0, txt, σ, i, a, hj, hlen, hM, hB => by
    refine ⟨σ, i, a, hM, by rw [List.range_zero, List.map_nil, List.append_nil]; exact hB, ⟨fun _ _ => rfl, fun _ _ => rfl⟩, fun _ _ => rfl, ?_⟩
    refine x_n cd_i100_66 rfl rfl ?_
    show am_to cd_t _ _ 100 67 _ _ _ _ _ _
    refine x_if_t cd_i100_67 (show ii 0 + -1 < 0 by decide) ?_
    refine x_ic cd_i100_106 (z := ii 1) rfl ?_
    show am_to cd_t _ _ 100 107 _ _ _ _ _ _
    exact x_end cd_i100_107 rfl rfl rfl
  | j + 1, txt, σ, i, a, hj, hlen, hM, hB => by
    obtain ⟨h1, h2, h3⟩ := hB
    have hl := cn_lt w j
    have hM1 := (hM.sto 1 (by decide) (by decide) (upd (a 1) txt.length (ii (cn w j)))).put (upd i 2 (ii (txt.length + 1)))
    have hB1 : M_buf (upd i 2 (ii (txt.length + 1))) (updA a 1 (upd (a 1) txt.length (ii (cn w j)))) (txt ++ [cn w j]) := by
      refine ⟨by rw [List.length_append]; rfl, by rw [List.length_append]; show txt.length + 1 ≤ 120; omega, fun q hq => ?_⟩
      rw [List.length_append] at hq
      have hq : q < txt.length + 1 := hq
      show upd (a 1) txt.length (ii (cn w j)) q = _
      unfold upd
      by_cases e : q = txt.length
      · rw [if_pos e, e, List.getD_eq_getElem?_getD, List.getElem?_append_right (Nat.le_refl _), Nat.sub_self]
        rfl
      · rw [if_neg e, h3 q (by omega), List.getD_eq_getElem?_getD, List.getD_eq_getElem?_getD, List.getElem?_append_left (by omega)]
    obtain ⟨σ', i', a', k1, k2, k3, k4, k5⟩ := m_put_loop2 hn j (txt ++ [cn w j]) _ _ _ (by omega) (by rw [List.length_append]; show txt.length + 1 + j ≤ 120; omega) hM1 hB1
    refine ⟨σ', i', a', k1, ?_, ⟨fun k hk => ?_, fun k hk => ?_⟩, fun q hq => ?_, ?_⟩
    · rw [List.append_assoc] at k2
      have e : txt ++ ([cn w j] ++ (List.range j).map (fun q => cn w (j - 1 - q))) = txt ++ (List.range (j + 1)).map (fun q => cn w (j + 1 - 1 - q)) := by
        rw [List.range_succ_eq_map, List.map_cons, List.map_map]
        congr 1
        show cn w j :: _ = cn w (j + 1 - 1 - 0) :: _
        congr 1
        apply List.map_congr_left
        intro q _
        show cn w (j - 1 - q) = cn w (j + 1 - 1 - (q + 1))
        congr 1
        omega
      rw [← e]
      exact k2
    · rw [k3.1 k hk]
      unfold upd
      rw [if_neg (fun z => hk (by rw [z]; exact List.mem_cons_self))]
    · rw [k3.2 k hk]
      unfold updA
      rw [if_neg (fun z => hk (by rw [z]; exact List.mem_cons_self))]
    · rw [k4 q hq, am_up_ne _ _ (by omega), am_up_ne _ _ (by omega)]
    · have hs : w >>> (ii 8 * ii j &&& 31) &&& ii 255 = ii (cn w j) := by rw [ii_mul, cn_ii]
      rw [ii_sub1 (rfl : j + 1 = j + 1)]
      refine x_n cd_i100_66 rfl rfl ?_
      show am_to cd_t _ _ 100 67 _ _ _ _ _ _
      refine x_if_f cd_i100_67 (fun z => ii_neg (by omega) (show ii j < 0 from z)) ?_
      refine x_n cd_i100_70 rfl rfl ?_
      show am_to cd_t _ _ 100 71 _ _ _ _ _ _
      refine x_getf cd_i100_71 hM.1 rfl rfl ?_
      refine x_n cd_i100_74 rfl rfl ?_
      show am_to cd_t _ _ 100 75 _ _ _ _ _ _
      refine x_getf cd_i100_75 hM.1 rfl rfl ?_
      rw [h1]
      refine x_n cd_i100_78 rfl rfl ?_
      refine x_bi cd_i100_79 (z := ii 8) (by decide) ?_
      refine x_n cd_i100_81 rfl rfl ?_
      refine x_imul cd_i100_82 rfl ?_
      refine x_ishr cd_i100_83 rfl ?_
      refine x_si cd_i100_84 (z := ii 255) (by decide) ?_
      show am_to cd_t _ _ 100 87 _ _ _ _ _ _
      refine x_iand cd_i100_87 hs ?_
      refine x_n cd_i100_88 rfl rfl ?_
      rw [i2c_ii (by omega)]
      refine x_castore cd_i100_89 (hM.2 1 (by decide) (by decide)) (i := txt.length) (show txt.length < 120 by omega) (by decide) ?_
      rw [nar_char_ii (by omega)]
      have hM2 := hM.sto 1 (by decide) (by decide) (upd (a 1) txt.length (ii (cn w j)))
      refine x_n cd_i100_90 rfl rfl ?_
      refine x_n cd_i100_91 rfl rfl ?_
      show am_to cd_t _ _ 100 92 _ _ _ _ _ _
      refine x_getf cd_i100_92 hM2.1 rfl rfl ?_
      rw [h1]
      refine x_ic cd_i100_95 (z := ii 1) rfl ?_
      show am_to cd_t _ _ 100 96 _ _ _ _ _ _
      refine x_iadd cd_i100_96 (z := ii (txt.length + 1)) (ii_add _ _) ?_
      refine x_putf cd_i100_97 (fs' := mo_f m (upd i 2 (ii (txt.length + 1)))) hM2.1 rfl rfl rfl ?_
      refine x_iinc cd_i100_100 rfl (z := ii j + -1) rfl rfl ?_
      refine x_n cd_i100_103 rfl rfl ?_
      show am_to cd_t _ _ 100 66 _ _ _ _ _ _
      exact k5
theorem M_same.trans {I A : List Nat} {i i1 i2 : Nat → Int32} {a a1 a2 : Nat → Nat → Int32} (h : M_same I A i i1 a a1) (h' : M_same I A i1 i2 a1 a2) : M_same I A i i2 a a2 := ⟨fun k hk => (h'.1 k hk).trans (h.1 k hk), fun k hk => (h'.2 k hk).trans (h.2 k hk)⟩
theorem M_same.wide {I A I' A' : List Nat} {i i1 : Nat → Int32} {a a1 : Nat → Nat → Int32} (h : M_same I A i i1 a a1) (hI : ∀ k ∈ I, k ∈ I') (hA : ∀ k ∈ A, k ∈ A') : M_same I' A' i i1 a a1 := ⟨fun k hk => h.1 k (fun z => hk (hI k z)), fun k hk => h.2 k (fun z => hk (hA k z))⟩
theorem M_same.num {I : List Nat} (A : List Nat) {i : Nat → Int32} {a : Nat → Nat → Int32} (k : Nat) (x : Int32) (hk : k ∈ I) : M_same I A i (upd i k x) a a := by
  refine ⟨fun q hq => ?_, fun _ _ => rfl⟩
  unfold upd
  rw [if_neg (fun z => hq (by rw [z]; exact hk))]
theorem m_put {σ : am_H} {i : Nat → Int32} {a : Nat → Nat → Int32} {txt : List Nat} {w n : Int32} (hd : 0 < d) (hM : mo σ m i a) (hB : M_buf i a txt) :
    ∃ (σ' : am_H) (i' : Nat → Int32) (a' : Nat → Nat → Int32), am_to cd_t cs d 100 0 (am_ent 4 [.ref m, .int w, .int n]) [] σ top sl (.inl (some (.int (b2i (putM txt w n).isSome))), σ', top, sl) ∧ mo σ' m i' a' ∧ M_buf i' a' ((putM txt w n).getD txt) ∧ M_same [0, 2] [1] i i' a a' ∧ i' 0 = 0 ∧ ∀ q, q < m ∨ m + 25 ≤ q → σ' q = σ q := by
  have hM1 := hM.put (upd i 0 0)
  have hB1 : M_buf (upd i 0 0) a txt := hB
  have hS1 : M_same [0, 2] [1] i (upd i 0 0) a a := M_same.num _ 0 0 (by decide)
  have hf1 : ∀ q, q < m ∨ m + 25 ≤ q → am_up σ m (.inr (.inl (11, mo_f m (upd i 0 0)))) q = σ q := fun q hq => am_up_ne _ _ (by omega)
  obtain ⟨s1, hs1⟩ : ∃ s, s = am_up σ m (.inr (.inl (11, mo_f m (upd i 0 0)))) := ⟨_, rfl⟩
  rw [← hs1] at hM1 hf1
  have start : ∀ res, am_to cd_t cs d 100 5 [some (.ref m), some (.int w), some (.int n), none] [] s1 top sl res → am_to cd_t cs d 100 0 (am_ent 4 [.ref m, .int w, .int n]) [] σ top sl res := by
    intro res h
    refine x_n cd_i100_0 rfl rfl ?_
    refine x_ic cd_i100_1 (z := ii 0) rfl ?_
    show am_to cd_t _ _ 100 2 _ _ _ _ _ _
    refine x_putf cd_i100_2 (fs' := mo_f m (upd i 0 0)) hM.1 rfl rfl rfl ?_
    rw [← hs1]
    exact h
  have hlen := hB.2.1
  by_cases hn : 1 ≤ n.toInt ∧ n.toInt ≤ 4 ∧ txt.length + n.toNatClampNeg ≤ 120
  · have e := Int32_nn (n := n) (by omega)
    have hcl : n.toNatClampNeg ≤ 4 := by
      show n.toInt.toNat ≤ 4
      omega
    have hpos : 1 ≤ n.toNatClampNeg := by
      show 1 ≤ n.toInt.toNat
      omega
    have go1 : ∀ res, am_to cd_t cs d 100 29 [some (.ref m), some (.int w), some (.int (ii n.toNatClampNeg)), some (.int (ii 0))] [] s1 top sl res → am_to cd_t cs d 100 0 (am_ent 4 [.ref m, .int w, .int n]) [] σ top sl res := by
      intro res h
      refine start res ?_
      refine x_n cd_i100_5 rfl rfl ?_
      refine x_ic cd_i100_6 (z := ii 1) rfl ?_
      refine x_ic cd_i100_7 (z := ii 4) rfl ?_
      show am_to cd_t _ _ 100 8 _ _ _ _ _ _
      refine x_calls (as := [.int n, .int (ii 1), .int (ii 4)]) cd_i100_8 hd rfl rfl rfl rfl rfl rfl m_outside ?_
      rw [if_neg (fun z => by rcases z with z | z; have := (lt_c (by decide)).mp z; omega; have := (c_lt (by decide)).mp z; omega)]
      refine x_if_f cd_i100_11 (fun z => z rfl) ?_
      refine x_n cd_i100_14 rfl rfl ?_
      show am_to cd_t _ _ 100 15 _ _ _ _ _ _
      refine x_getf cd_i100_15 hM1.1 rfl rfl ?_
      rw [show upd i 0 0 2 = ii txt.length from hB.1]
      refine x_n cd_i100_18 rfl rfl ?_
      show am_to cd_t _ _ 100 19 _ _ _ _ _ _
      refine x_iadd cd_i100_19 (z := ii (txt.length + n.toNatClampNeg)) (by rw [← ii_add, ← e]) ?_
      refine x_bi cd_i100_20 (z := ii 120) (by decide) ?_
      show am_to cd_t _ _ 100 22 _ _ _ _ _ _
      refine x_icmp_t cd_i100_22 ((ii_le (by omega) (by decide)).mpr hn.2.2) ?_
      refine x_ic cd_i100_27 (z := ii 0) rfl ?_
      refine x_n cd_i100_28 rfl rfl ?_
      try dsimp only [List.set]
      show am_to cd_t _ _ 100 29 _ _ _ _ _ _
      rw [← e] at h
      exact h
    rcases m_put_loop1 (cs := cs) (m := m) (top := top) (sl := sl) (σ := s1) (n := n.toNatClampNeg) (w := w) hd hcl n.toNatClampNeg 0 (by omega) (fun q hq => absurd hq (Nat.not_lt_zero q)) with ⟨h1, h2⟩ | ⟨h1, h2⟩
    · have hP : putM txt w n = some (txt ++ (List.range n.toNatClampNeg).map (fun i => cn w (n.toNatClampNeg - 1 - i))) := by
        unfold putM
        exact if_pos ⟨hn.1, hn.2.1, hn.2.2, h1⟩
      rw [hP]
      obtain ⟨σ', i', a', k1, k2, k3, k4, k5⟩ := m_put_loop2 (cs := cs) (d := d) (m := m) (top := top) (sl := sl) (w := w) hcl n.toNatClampNeg txt s1 _ _ (Nat.le_refl _) hn.2.2 hM1 hB1
      refine ⟨σ', i', a', go1 _ (h2 _ ?_), k1, k2, hS1.trans (k3.wide (by decide) (by decide)), (k3.1 0 (by decide)).trans rfl, fun q hq => (k4 q hq).trans (hf1 q hq)⟩
      refine x_n cd_i100_62 rfl rfl ?_
      refine x_ic cd_i100_63 (z := ii 1) rfl ?_
      show am_to cd_t _ _ 100 64 _ _ _ _ _ _
      refine x_isub cd_i100_64 (z := ii n.toNatClampNeg + -1) (by rw [ii_sub hpos, ii_sub1 (b := n.toNatClampNeg - 1) (by omega)]) ?_
      refine x_n cd_i100_65 rfl rfl ?_
      try dsimp only [List.set]
      show am_to cd_t _ _ 100 66 _ _ _ _ _ _
      exact k5
    · have hP : putM txt w n = none := by
        unfold putM
        exact if_neg (fun z => h1 z.2.2.2)
      rw [hP]
      exact ⟨s1, _, _, go1 _ h2, hM1, hB1, hS1, rfl, hf1⟩
  · have hP : putM txt w n = none := by
      unfold putM
      exact if_neg (fun z => hn ⟨z.1, z.2.1, z.2.2.1⟩)
    rw [hP]
    refine ⟨s1, _, _, start _ ?_, hM1, hB1, hS1, rfl, hf1⟩
    refine x_n cd_i100_5 rfl rfl ?_
    refine x_ic cd_i100_6 (z := ii 1) rfl ?_
    refine x_ic cd_i100_7 (z := ii 4) rfl ?_
    show am_to cd_t _ _ 100 8 _ _ _ _ _ _
    refine x_calls (as := [.int n, .int (ii 1), .int (ii 4)]) cd_i100_8 hd rfl rfl rfl rfl rfl rfl m_outside ?_
    by_cases ho : n < ii 1 ∨ ii 4 < n
    · rw [if_pos ho]
      refine x_if_t cd_i100_11 (fun z => absurd (show (1 : Int32) = 0 from z) (by decide)) ?_
      refine x_ic cd_i100_25 (z := ii 0) rfl ?_
      show am_to cd_t _ _ 100 26 _ _ _ _ _ _
      exact x_end cd_i100_26 rfl rfl rfl
    · rw [if_neg ho]
      have o1 := mt (fun z => Or.inl ((lt_c (n := n) (k := 1) (by decide)).mpr z)) ho
      have o2 := mt (fun z => Or.inr ((c_lt (n := n) (k := 4) (by decide)).mpr z)) ho
      have e := Int32_nn (n := n) (by omega)
      refine x_if_f cd_i100_11 (fun z => z rfl) ?_
      refine x_n cd_i100_14 rfl rfl ?_
      show am_to cd_t _ _ 100 15 _ _ _ _ _ _
      refine x_getf cd_i100_15 hM1.1 rfl rfl ?_
      rw [show upd i 0 0 2 = ii txt.length from hB.1]
      refine x_n cd_i100_18 rfl rfl ?_
      show am_to cd_t _ _ 100 19 _ _ _ _ _ _
      have hcl : (n.toNatClampNeg : Int) = n.toInt := by
        show ((n.toInt.toNat : Nat) : Int) = n.toInt
        omega
      refine x_iadd cd_i100_19 (z := ii (txt.length + n.toNatClampNeg)) (by rw [← ii_add, ← e]) ?_
      refine x_bi cd_i100_20 (z := ii 120) (by decide) ?_
      show am_to cd_t _ _ 100 22 _ _ _ _ _ _
      refine x_icmp_f cd_i100_22 (fun z => by have := (ii_le (by omega) (by decide)).mp (show ii (txt.length + n.toNatClampNeg) ≤ ii 120 from z); omega) ?_
      refine x_ic cd_i100_25 (z := ii 0) rfl ?_
      show am_to cd_t _ _ 100 26 _ _ _ _ _ _
      exact x_end cd_i100_26 rfl rfl rfl
end PM
