section LOP
variable {cs : Nat → Value} {ad : Nat → Nat} {q L : Nat} {xs : Nat → Int32} {b d : Nat}
theorem and_15 (x : Int32) : ∃ k, k < 16 ∧ x &&& ii 15 = ii k := by
  refine ⟨x.toBitVec.toNat % 16, Nat.mod_lt _ (by decide), ?_⟩
  rw [← Int32.toBitVec_inj]
  apply BitVec.eq_of_toNat_eq
  rw [Int32.toBitVec_and, BitVec.toNat_and]
  have h15 : (ii 15).toBitVec.toNat = 2 ^ 4 - 1 := rfl
  rw [h15, Nat.and_two_pow_sub_one_eq_mod]
  have hr : (ii (x.toBitVec.toNat % 16)).toBitVec = BitVec.ofNat 32 (x.toBitVec.toNat % 16) := rfl
  rw [hr, BitVec.toNat_ofNat]
  have := Nat.mod_lt x.toBitVec.toNat (show 0 < 16 by decide)
  rw [Nat.mod_eq_of_lt (a := x.toBitVec.toNat % 16) (by omega)]
theorem x_len0 {y pc u k : Nat} {lv : am_V} {st : List Value} {σ : am_H} {top sl : Nat} {res : am_R} {a n : Nat} {f : Nat → Int32} (hI : cd_I y pc = some (.arraylength, u, k)) (ho : σ a = some (.inr (.inr (0, n, f)))) (h : am_to cd_t cs d y (pc + 1) lv (.int (ii n) :: st) σ top sl res) : am_to cd_t cs d y pc lv (.ref a :: st) σ top sl res := by
  refine x_n hI rfl ?_ h
  dsimp only [am_step, am_a1]
  rw [ho]
  rfl
theorem l_step {n : Nat} {σ : am_H} {top sl : Nat} {v5 v6 : Option Value} (hd : 50 < d) (hcs : csOk cs ad) (hn : n + 2 < L) (hL : L ≤ 1536) (hq : q < b) (h : inv cs ad q L xs b σ top) :
    ∃ (σ' : am_H) (top' sl' : Nat) (v5' v6' : Option Value), inv cs ad q L xs b σ' top' ∧ top' ≤ top + 15 ∧ sl' ≤ sl + 70 ∧
      ∀ res, am_to cd_t cs d 0 574 [some (.ref q), some (.ref b), some (.ref (b + 88)), some (.ref (b + 113)), some (.int (ii n)), v5', v6'] [] σ' top' sl' res → am_to cd_t cs d 0 39 [some (.ref q), some (.ref b), some (.ref (b + 88)), some (.ref (b + 113)), some (.int (ii n)), v5, v6] [.int (xs n &&& ii 15)] σ top sl res := by
  obtain ⟨k, hk, ek⟩ := and_15 (xs n)
  rw [ek]
  have go : ∀ {p : Nat}, stp cs ad q L xs b d n p σ top sl v5 v6 → (∀ res, am_to cd_t cs d 0 p [some (.ref q), some (.ref b), some (.ref (b + 88)), some (.ref (b + 113)), some (.int (ii n)), v5, v6] [] σ top sl res → am_to cd_t cs d 0 39 [some (.ref q), some (.ref b), some (.ref (b + 88)), some (.ref (b + 113)), some (.int (ii n)), v5, v6] [.int (ii k)] σ top sl res) →
      ∃ (σ' : am_H) (top' sl' : Nat) (v5' v6' : Option Value), inv cs ad q L xs b σ' top' ∧ top' ≤ top + 15 ∧ sl' ≤ sl + 70 ∧
        ∀ res, am_to cd_t cs d 0 574 [some (.ref q), some (.ref b), some (.ref (b + 88)), some (.ref (b + 113)), some (.int (ii n)), v5', v6'] [] σ' top' sl' res → am_to cd_t cs d 0 39 [some (.ref q), some (.ref b), some (.ref (b + 88)), some (.ref (b + 113)), some (.int (ii n)), v5, v6] [.int (ii k)] σ top sl res := by
    rintro p ⟨s1, t1, l1, w5, w6, c1, c2, c3, c4⟩ hp
    exact ⟨s1, t1, l1, w5, w6, c1, c2, c3, fun res hh => hp res (c4 res hh)⟩
  have dflt : 13 ≤ k → ∃ (σ' : am_H) (top' sl' : Nat) (v5' v6' : Option Value), inv cs ad q L xs b σ' top' ∧ top' ≤ top + 15 ∧ sl' ≤ sl + 70 ∧
        ∀ res, am_to cd_t cs d 0 574 [some (.ref q), some (.ref b), some (.ref (b + 88)), some (.ref (b + 113)), some (.int (ii n)), v5', v6'] [] σ' top' sl' res → am_to cd_t cs d 0 39 [some (.ref q), some (.ref b), some (.ref (b + 88)), some (.ref (b + 113)), some (.int (ii n)), v5, v6] [.int (ii k)] σ top sl res := by
    intro h13
    refine ⟨σ, top, sl, v5, v6, h, by omega, by omega, fun res hh => ?_⟩
    exact x_tsw_d cd_i0_39 (Or.inr (by rw [ii_toInt (by omega)]; omega)) (by decide) hh
  rcases (show k = 0 ∨ k = 1 ∨ k = 2 ∨ k = 3 ∨ k = 4 ∨ k = 5 ∨ k = 6 ∨ k = 7 ∨ k = 8 ∨ k = 9 ∨ k = 10 ∨ k = 11 ∨ k = 12 ∨ 13 ≤ k by omega) with rfl | rfl | rfl | rfl | rfl | rfl | rfl | rfl | rfl | rfl | rfl | rfl | rfl | h13
  · exact go (st_put hd hcs hn hL hq h) (fun res hh => x_tsw_i (j := 0) cd_i0_39 (by decide) (by decide) rfl (by decide) hh)
  · exact go (st_declare hd hcs hn hL hq h) (fun res hh => x_tsw_i (j := 1) cd_i0_39 (by decide) (by decide) rfl (by decide) hh)
  · exact go (st_variable hd hcs hn hL hq h) (fun res hh => x_tsw_i (j := 2) cd_i0_39 (by decide) (by decide) rfl (by decide) hh)
  · exact go (st_forget hd hcs hn hL hq h) (fun res hh => x_tsw_i (j := 3) cd_i0_39 (by decide) (by decide) rfl (by decide) hh)
  · exact go (st_enter hd hcs hn hL hq h) (fun res hh => x_tsw_i (j := 4) cd_i0_39 (by decide) (by decide) rfl (by decide) hh)
  · exact go (st_complete hd hcs hn hL hq h) (fun res hh => x_tsw_i (j := 5) cd_i0_39 (by decide) (by decide) rfl (by decide) hh)
  · exact go (st_check hd hcs hn hL hq h) (fun res hh => x_tsw_i (j := 6) cd_i0_39 (by decide) (by decide) rfl (by decide) hh)
  · exact go (st_checked hd hcs hn hL hq h) (fun res hh => x_tsw_i (j := 7) cd_i0_39 (by decide) (by decide) rfl (by decide) hh)
  · exact go (st_fits hd hcs hn hL hq h) (fun res hh => x_tsw_i (j := 8) cd_i0_39 (by decide) (by decide) rfl (by decide) hh)
  · exact go (st_proposal hd hcs hn hL hq h) (fun res hh => x_tsw_i (j := 9) cd_i0_39 (by decide) (by decide) rfl (by decide) hh)
  · exact go (st_letter hd hcs hn hL hq h) (fun res hh => x_tsw_i (j := 10) cd_i0_39 (by decide) (by decide) rfl (by decide) hh)
  · exact go (st_members hd hcs hn hL hq h) (fun res hh => x_tsw_i (j := 11) cd_i0_39 (by decide) (by decide) rfl (by decide) hh)
  · exact go (st_seen hd hcs hn hL hq h) (fun res hh => x_tsw_i (j := 12) cd_i0_39 (by decide) (by decide) rfl (by decide) hh)
  · exact dflt h13
theorem l_loop (hd : 50 < d) (hcs : csOk cs ad) (hL : L ≤ 1536) (hq : q < b) :
    ∀ (m n : Nat) (σ : am_H) (top sl : Nat) (v5 v6 : Option Value), L < n + 3 * m + 3 → n ≤ L + 3 → inv cs ad q L xs b σ top →
    ∃ (σ' : am_H) (top' sl' : Nat), am_to cd_t cs d 0 23 [some (.ref q), some (.ref b), some (.ref (b + 88)), some (.ref (b + 113)), some (.int (ii n)), v5, v6] [] σ top sl (.inl (some (.int 1)), σ', top', sl') ∧ top' ≤ top + 15 * m ∧ sl' ≤ sl + 70 * m := by
  have fin : ∀ {n : Nat} {σ : am_H} {top sl : Nat} {v5 v6 : Option Value}, ¬ n + 2 < L → n ≤ L + 3 → inv cs ad q L xs b σ top → am_to cd_t cs d 0 23 [some (.ref q), some (.ref b), some (.ref (b + 88)), some (.ref (b + 113)), some (.int (ii n)), v5, v6] [] σ top sl (.inl (some (.int 1)), σ, top, sl) := by
    intro n σ top sl v5 v6 hn hn2 hI
    obtain ⟨v, txt, dec, pl, da, ea, rk, k0, vs, pr, i, a, hX, hM, hOI, hLI, ht⟩ := hI
    refine x_n cd_i0_23 rfl rfl ?_
    refine x_n cd_i0_25 rfl rfl ?_
    show am_to cd_t _ _ 0 26 _ _ _ _ _ _
    refine x_len0 cd_i0_26 hOI.1 ?_
    refine x_ic cd_i0_27 (z := ii 3) rfl ?_
    refine x_isub cd_i0_28 rfl ?_
    refine x_icmp_t cd_i0_29 ?_ ?_
    · show ii L - ii 3 < ii n
      by_cases h3 : 3 ≤ L
      · rw [ii_sub h3, ii_lt (by omega) (by omega)]
        omega
      · have e : ∀ m, m < 3 → ii m - ii 3 < 0 := by decide
        have h1 := Int32.lt_iff_toInt_lt.mp (e L (by omega))
        rw [Int32.lt_iff_toInt_lt, ii_toInt (by omega)]
        rw [Int32.toInt_zero] at h1
        omega
    · refine x_ic cd_i0_580 (z := 1) rfl ?_
      exact x_end cd_i0_581 rfl rfl rfl
  intro m
  induction m with
  | zero =>
    intro n σ top sl v5 v6 h1 h2 hI
    exact ⟨σ, top, sl, fin (by omega) h2 hI, by omega, by omega⟩
  | succ m ih =>
    intro n σ top sl v5 v6 h1 h2 hI
    by_cases hn : n + 2 < L
    · obtain ⟨s1, t1, l1, w5, w6, c1, c2, c3, c4⟩ := l_step (cs := cs) (sl := sl) (v5 := v5) (v6 := v6) hd hcs hn hL hq hI
      obtain ⟨s2, t2, l2, k1, k2, k3⟩ := ih (n + 3) s1 t1 l1 w5 w6 (by omega) (by omega) c1
      refine ⟨s2, t2, l2, ?_, by omega, by omega⟩
      obtain ⟨v, txt, dec, pl, da, ea, rk, k0, vs, pr, i, a, hX, hM, hOI, hLI, ht⟩ := id hI
      refine x_n cd_i0_23 rfl rfl ?_
      refine x_n cd_i0_25 rfl rfl ?_
      show am_to cd_t _ _ 0 26 _ _ _ _ _ _
      refine x_len0 cd_i0_26 hOI.1 ?_
      refine x_ic cd_i0_27 (z := ii 3) rfl ?_
      refine x_isub cd_i0_28 (z := ii (L - 3)) (ii_sub (by omega)) ?_
      refine x_icmp_f cd_i0_29 (fun z => by have := (ii_lt (by omega) (by omega)).mp (show ii (L - 3) < ii n from z); omega) ?_
      refine x_n cd_i0_32 rfl rfl ?_
      refine x_n cd_i0_33 rfl rfl ?_
      show am_to cd_t _ _ 0 35 _ _ _ _ _ _
      refine x_iaload0 cd_i0_35 hOI.1 (by omega) (by omega) ?_
      refine x_bi cd_i0_36 (z := ii 15) (by decide) ?_
      refine x_iand cd_i0_38 rfl ?_
      refine c4 _ ?_
      refine x_iinc cd_i0_574 rfl (ii_add _ 3) rfl ?_
      refine x_n cd_i0_577 rfl rfl ?_
      show am_to cd_t _ _ 0 23 _ _ _ _ _ _
      exact k1
    · exact ⟨σ, top, sl, fin hn h2 hI, by omega, by omega⟩
end LOP
