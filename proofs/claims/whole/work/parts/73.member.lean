/-! members and declarations -/
section MB
variable {cs : Nat → Value} {d b top sl : Nat} {σ : am_H} {y pc u k : Nat} {lv : am_V} {st : List Value} {res : am_R}
theorem x_acne {off : Int} {p q : Nat} (hI : cd_I y pc = some (.if_acmp .ne off, u, k)) (h1 : p = q → am_to cd_t cs d y (pc + 3) lv st σ top sl res) (h2 : ¬ p = q → am_to cd_t cs d y u lv st σ top sl res) : am_to cd_t cs d y pc lv (.ref q :: .ref p :: st) σ top sl res := by
  by_cases e : p = q
  · refine x_n hI rfl ?_ (h1 e)
    dsimp only [am_step, am_q2]
    rw [if_pos (by rw [e])]
    rfl
  · refine x_n hI rfl ?_ (h2 e)
    dsimp only [am_step, am_q2]
    rw [if_neg (fun z => e (Option.some.inj z))]
    rfl
theorem x_aceq {off : Int} {p q : Nat} (hI : cd_I y pc = some (.if_acmp .eq off, u, k)) (h1 : p = q → am_to cd_t cs d y u lv st σ top sl res) (h2 : ¬ p = q → am_to cd_t cs d y (pc + 3) lv st σ top sl res) : am_to cd_t cs d y pc lv (.ref q :: .ref p :: st) σ top sl res := by
  by_cases e : p = q
  · refine x_n hI rfl ?_ (h1 e)
    dsimp only [am_step, am_q2]
    rw [if_pos (by rw [e])]
    rfl
  · refine x_n hI rfl ?_ (h2 e)
    dsimp only [am_step, am_q2]
    rw [if_neg (fun z => e (Option.some.inj z))]
    rfl
end MB
/-- a name's letters -/
def nameOk (w : List Nat) : Prop := (∀ c ∈ w, 97 ≤ c ∧ c ≤ 122) ∧ w.length ≤ 4
def memOk (M : Mem) : Prop := M.1 < 3 ∧ nameOk M.2.2.2.1 ∧ (M.1 = 2 → M.2.2.2.1 = [] ∧ M.2.2.1 = false) ∧ (¬ M.1 = 2 → 1 ≤ M.2.2.2.1.length) ∧ M.2.2.2.2.1.length ≤ 2 ∧ (∀ t ∈ M.2.2.2.2.1, t < 13) ∧ M.2.2.2.2.2 < 13 ∧ (M.1 = 0 → M.2.2.2.2.1 = [])
theorem n256_eq {w w' : List Nat} (h : nameOk w) (h' : nameOk w') : ii (n256 w) = ii (n256 w') ↔ w = w' := by
  rw [ii_eq (n256_small h.1 h.2) (n256_small h'.1 h'.2)]
  exact ⟨fun e => n256_inj h.1 h'.1 e, fun e => by rw [e]⟩
/-- what is found by kind and name -/
def isNm (k : Nat) (w : List Nat) (M : Mem) : Bool := M.1 == k && M.2.2.2.1 == w
def fndR (ms : List Mem) (k : Nat) (w : List Nat) (r : Option Nat) : Prop := match r with
  | none => ∀ j, j < ms.length → isNm k w (ms.getD j default) = false
  | some j => j < ms.length ∧ isNm k w (ms.getD j default) = true ∧ ∀ j', j' < j → isNm k w (ms.getD j' default) = false
section MB
variable {cs : Nat → Value} {d b top sl : Nat} {σ : am_H} {ad : Nat → Nat} {lo hi : Nat}
theorem x_isNamed {e k : Nat} {M : Mem} {w : List Nat} (hcs : csOk cs ad) (h : memAt ad σ lo hi e M) (hM : memOk M) (hk : k < 3) (hw : nameOk w) :
    am_to cd_t cs d 29 0 (am_ent 3 [.ref e, .ref (ad k), .int (ii (n256 w))]) [] σ top sl (.inl (some (.int (b2i (isNm k w M)))), σ, top, sl) := by
  obtain ⟨h1, h2, p, f, h3, h4, h5, h6, h7⟩ := h
  have no : isNm k w M = false → am_to cd_t cs d 29 20 [some (.ref e), some (.ref (ad k)), some (.int (ii (n256 w)))] [] σ top sl (.inl (some (.int (b2i (isNm k w M)))), σ, top, sl) := by
    intro z
    rw [z]
    refine x_ic cd_i29_20 (z := ii 0) rfl ?_
    show am_to cd_t _ _ 29 21 _ _ _ _ _ _
    exact x_end cd_i29_21 rfl rfl rfl
  refine x_n cd_i29_0 rfl rfl ?_
  refine x_getf cd_i29_1 (by assumption) rfl rfl ?_
  refine x_n cd_i29_4 rfl rfl ?_
  show am_to cd_t _ _ 29 5 _ _ _ _ _ _
  refine x_acne cd_i29_5 (fun z => ?_) (fun z => no ?_)
  · have ek := hcs.2.2.2.2.2 _ _ hM.1 hk z
    refine x_n cd_i29_8 rfl rfl ?_
    refine x_getf cd_i29_9 (by assumption) rfl rfl ?_
    refine x_n cd_i29_12 rfl rfl ?_
    show am_to cd_t _ _ 29 13 _ _ _ _ _ _
    refine x_icmp cd_i29_13 (fun z => no ?_) (fun z => ?_)
    · have : ¬ M.2.2.2.1 = w := fun q => z ((n256_eq hM.2.1 hw).mpr q)
      unfold isNm
      rw [beq_eq_false_iff_ne.mpr this, Bool.and_false]
    · have hz : M.2.2.2.1 = w := (n256_eq hM.2.1 hw).mp (Decidable.not_not.mp z)
      unfold isNm
      rw [beq_iff_eq.mpr hz, beq_iff_eq.mpr ek]
      refine x_ic cd_i29_16 (z := ii 1) rfl ?_
      refine x_n cd_i29_17 rfl rfl ?_
      show am_to cd_t _ _ 29 21 _ _ _ _ _ _
      exact x_end cd_i29_21 rfl rfl rfl
  · have : ¬ M.1 = k := fun q => z (by rw [q])
    unfold isNm
    rw [beq_eq_false_iff_ne.mpr this, Bool.false_and]
theorem x_find_loop {a c k : Nat} {par : Option Nat} {ms : List Mem} {ea : Nat → Nat} {w : List Nat} (hd : 0 < d) (hcs : csOk cs ad) (h : decAt ad σ lo hi a c par ms ea) (hM : ∀ M ∈ ms, memOk M) (hk : k < 3) (hw : nameOk w) :
    ∀ (n i : Nat), i + n = ms.length → (∀ j, j < i → isNm k w (ms.getD j default) = false) →
      ∃ r, fndR ms k w r ∧ am_to cd_t cs d 28 2 [some (.ref a), some (.ref (ad k)), some (.int (ii (n256 w))), some (.int (ii i))] [] σ top sl (.inl (some (va_rf (r.map ea))), σ, top, sl)
  | 0, i, hi, hj => by
    obtain ⟨h1, h2, r, g, h3, h4, h5, h6, h7, h8⟩ := h
    refine ⟨none, (fun j hj' => hj j (by omega)), ?_⟩
    refine x_n cd_i28_2 rfl rfl ?_
    refine x_n cd_i28_3 rfl rfl ?_
    refine x_getf cd_i28_4 (by assumption) rfl rfl ?_
    show am_to cd_t _ _ 28 7 _ _ _ _ _ _
    refine x_icmp_t cd_i28_7 ((ii_le (by omega) (by omega)).mpr (by omega)) ?_
    refine x_n cd_i28_37 rfl rfl ?_
    show am_to cd_t _ _ 28 38 _ _ _ _ _ _
    exact x_end cd_i28_38 rfl rfl rfl
  | n + 1, i, hi, hj => by
    obtain ⟨h1, h2, r, g, h3, h4, h5, h6, h7, h8⟩ := id h
    have hil : i < ms.length := by omega
    obtain ⟨e1, e2⟩ := h8 i hil
    have hmem : memOk (ms.getD i default) := by
      rw [List.getD_eq_getElem?_getD, List.getElem?_eq_getElem hil]
      exact hM _ (List.getElem_mem hil)
    have hn := x_isNamed (cs := cs) (d := d - 1) (top := top) (sl := sl) hcs e2 hmem hk hw
    obtain ⟨q1, q2, p, f, q3, q4, q5, q6⟩ := id e2
    have go : ∀ res, am_to cd_t cs d 28 21 [some (.ref a), some (.ref (ad k)), some (.int (ii (n256 w))), some (.int (ii i))] [.int (b2i (isNm k w (ms.getD i default)))] σ top sl res → am_to cd_t cs d 28 2 [some (.ref a), some (.ref (ad k)), some (.int (ii (n256 w))), some (.int (ii i))] [] σ top sl res := by
      intro res hh
      refine x_n cd_i28_2 rfl rfl ?_
      refine x_n cd_i28_3 rfl rfl ?_
      refine x_getf cd_i28_4 (by assumption) rfl rfl ?_
      show am_to cd_t _ _ 28 7 _ _ _ _ _ _
      refine x_icmp_f cd_i28_7 (fun z => by have := (ii_le (by omega) (by omega)).mp (show ii ms.length ≤ ii i from z); omega) ?_
      refine x_n cd_i28_10 rfl rfl ?_
      refine x_getf cd_i28_11 (by assumption) rfl rfl ?_
      refine x_n cd_i28_14 rfl rfl ?_
      show am_to cd_t _ _ 28 15 _ _ _ _ _ _
      refine x_aaload cd_i28_15 h6 (show i < 6 by omega) (by decide) ?_
      rw [e1]
      refine x_n cd_i28_16 rfl rfl ?_
      refine x_n cd_i28_17 rfl rfl ?_
      show am_to cd_t _ _ 28 18 _ _ _ _ _ _
      refine x_callv (as' := [.ref (ad k), .int (ii (n256 w))]) cd_i28_18 q5 hd rfl rfl rfl rfl rfl rfl hn ?_
      exact hh
    cases hb : isNm k w (ms.getD i default) with
    | true =>
      rw [hb] at go
      refine ⟨some i, ⟨hil, hb, hj⟩, go _ ?_⟩
      refine x_if_f cd_i28_21 (fun z => absurd (show (1 : Int32) = 0 from z) (by decide)) ?_
      refine x_n cd_i28_24 rfl rfl ?_
      refine x_getf cd_i28_25 (by assumption) rfl rfl ?_
      refine x_n cd_i28_28 rfl rfl ?_
      show am_to cd_t _ _ 28 29 _ _ _ _ _ _
      refine x_aaload cd_i28_29 h6 (show i < 6 by omega) (by decide) ?_
      rw [e1]
      exact x_end cd_i28_30 rfl rfl rfl
    | false =>
      rw [hb] at go
      have hj' : ∀ j, j < i + 1 → isNm k w (ms.getD j default) = false := by
        intro j hlt
        by_cases e : j = i
        · rw [e]; exact hb
        · exact hj j (by omega)
      obtain ⟨r', k1, k2⟩ := x_find_loop hd hcs h hM hk hw n (i + 1) (by omega) hj'
      refine ⟨r', k1, go _ ?_⟩
      refine x_if_t cd_i28_21 rfl ?_
      refine x_iinc cd_i28_31 rfl (ii_add _ 1) rfl ?_
      refine x_n cd_i28_34 rfl rfl ?_
      show am_to cd_t _ _ 28 2 _ _ _ _ _ _
      exact k2
theorem x_find {a c k : Nat} {par : Option Nat} {ms : List Mem} {ea : Nat → Nat} {w : List Nat} (hd : 0 < d) (hcs : csOk cs ad) (h : decAt ad σ lo hi a c par ms ea) (hM : ∀ M ∈ ms, memOk M) (hk : k < 3) (hw : nameOk w) :
    ∃ r, fndR ms k w r ∧ am_to cd_t cs d 28 0 (am_ent 4 [.ref a, .ref (ad k), .int (ii (n256 w))]) [] σ top sl (.inl (some (va_rf (r.map ea))), σ, top, sl) := by
  obtain ⟨r, k1, k2⟩ := x_find_loop (cs := cs) (d := d) (top := top) (sl := sl) hd hcs h hM hk hw ms.length 0 (Nat.zero_add _) (fun j hj => absurd hj (Nat.not_lt_zero j))
  refine ⟨r, k1, ?_⟩
  refine x_ic cd_i28_0 (z := ii 0) rfl ?_
  refine x_n cd_i28_1 rfl rfl ?_
  try dsimp only [List.set]
  show am_to cd_t _ _ 28 2 _ _ _ _ _ _
  exact k2
/-- the same parameters and the same type -/
def sameT (M N : Mem) : Bool := M.2.2.2.2.2 == N.2.2.2.2.2 && M.2.2.2.2.1 == N.2.2.2.2.1
theorem x_hasTypes {e e' : Nat} {M N : Mem} (h : memAt ad σ lo hi e M) (h' : memAt ad σ lo hi e' N) (hM : memOk M) (hN : memOk N) :
    am_to cd_t cs d 57 0 (am_ent 3 [.ref e, .ref e']) [] σ top sl (.inl (some (.int (b2i (sameT M N)))), σ, top, sl) := by
  obtain ⟨h1, h2, p, f, h3, h4, h5, h6, h7, h8⟩ := h
  obtain ⟨g1, g2, q, g, g3, g4, g5, g6, g7, g8⟩ := h'
  have m5 := hM.2.2.2.2.2.2.1
  have n5 := hN.2.2.2.2.2.2.1
  have no : sameT M N = false → am_to cd_t cs d 57 22 [some (.ref e), some (.ref e'), none] [] σ top sl (.inl (some (.int (b2i (sameT M N)))), σ, top, sl) := by
    intro z
    rw [z]
    refine x_ic cd_i57_22 (z := ii 0) rfl ?_
    show am_to cd_t _ _ 57 23 _ _ _ _ _ _
    exact x_end cd_i57_23 rfl rfl rfl
  refine x_n cd_i57_0 rfl rfl ?_
  refine x_getf cd_i57_1 (by assumption) rfl rfl ?_
  refine x_n cd_i57_4 rfl rfl ?_
  refine x_getf cd_i57_5 (by assumption) rfl rfl ?_
  show am_to cd_t _ _ 57 8 _ _ _ _ _ _
  refine x_icmp cd_i57_8 (fun z => no ?_) (fun z => ?_)
  · have : ¬ M.2.2.2.2.2 = N.2.2.2.2.2 := fun w => z (by rw [w])
    unfold sameT
    rw [beq_eq_false_iff_ne.mpr this, Bool.false_and]
  have ht : M.2.2.2.2.2 = N.2.2.2.2.2 := (ii_eq (by omega) (by omega)).mp (Decidable.not_not.mp z)
  refine x_n cd_i57_11 rfl rfl ?_
  refine x_getf cd_i57_12 (by assumption) rfl rfl ?_
  refine x_n cd_i57_15 rfl rfl ?_
  refine x_getf cd_i57_16 (by assumption) rfl rfl ?_
  show am_to cd_t _ _ 57 19 _ _ _ _ _ _
  refine x_icmp cd_i57_19 (fun z => ?_) (fun z => no ?_)
  · have hl : M.2.2.2.2.1.length = N.2.2.2.2.1.length := (ii_eq (by omega) (by omega)).mp z
    have loop : ∀ (n i : Nat), i + n = M.2.2.2.2.1.length → (∀ j, j < i → M.2.2.2.2.1.getD j 0 = N.2.2.2.2.1.getD j 0) → am_to cd_t cs d 57 26 [some (.ref e), some (.ref e'), some (.int (ii i))] [] σ top sl (.inl (some (.int (b2i (sameT M N)))), σ, top, sl) := by
      intro n
      induction n with
      | zero =>
        intro i hi hj
        have : M.2.2.2.2.1 = N.2.2.2.2.1 := by
          apply List.ext_getElem hl
          intro j j1 j2
          have := hj j (by omega)
          rw [List.getD_eq_getElem?_getD, List.getD_eq_getElem?_getD, List.getElem?_eq_getElem j1, List.getElem?_eq_getElem j2] at this
          exact this
        unfold sameT
        rw [beq_iff_eq.mpr ht, beq_iff_eq.mpr this]
        refine x_n cd_i57_26 rfl rfl ?_
        refine x_n cd_i57_27 rfl rfl ?_
        refine x_getf cd_i57_28 (by assumption) rfl rfl ?_
        show am_to cd_t _ _ 57 31 _ _ _ _ _ _
        refine x_icmp_t cd_i57_31 ((ii_le (by omega) (by omega)).mpr (by omega)) ?_
        refine x_ic cd_i57_57 (z := ii 1) rfl ?_
        show am_to cd_t _ _ 57 58 _ _ _ _ _ _
        exact x_end cd_i57_58 rfl rfl rfl
      | succ n ih =>
        intro i hi hj
        have hi1 : i < M.2.2.2.2.1.length := by omega
        have hi2 : i < N.2.2.2.2.1.length := by omega
        have b1 : M.2.2.2.2.1.getD i 0 < 13 := by
          rw [List.getD_eq_getElem?_getD, List.getElem?_eq_getElem hi1]
          exact hM.2.2.2.2.2.1 _ (List.getElem_mem hi1)
        have b2 : N.2.2.2.2.1.getD i 0 < 13 := by
          rw [List.getD_eq_getElem?_getD, List.getElem?_eq_getElem hi2]
          exact hN.2.2.2.2.2.1 _ (List.getElem_mem hi2)
        refine x_n cd_i57_26 rfl rfl ?_
        refine x_n cd_i57_27 rfl rfl ?_
        refine x_getf cd_i57_28 (by assumption) rfl rfl ?_
        show am_to cd_t _ _ 57 31 _ _ _ _ _ _
        refine x_icmp_f cd_i57_31 (fun z => by have := (ii_le (by omega) (by omega)).mp (show ii M.2.2.2.2.1.length ≤ ii i from z); omega) ?_
        refine x_n cd_i57_34 rfl rfl ?_
        refine x_getf cd_i57_35 (by assumption) rfl rfl ?_
        refine x_n cd_i57_38 rfl rfl ?_
        show am_to cd_t _ _ 57 39 _ _ _ _ _ _
        refine x_iald cd_i57_39 h6 (show i < 2 by omega) (by decide) (h8 i hi1) ?_
        refine x_n cd_i57_40 rfl rfl ?_
        refine x_getf cd_i57_41 (by assumption) rfl rfl ?_
        refine x_n cd_i57_44 rfl rfl ?_
        show am_to cd_t _ _ 57 45 _ _ _ _ _ _
        refine x_iald cd_i57_45 g6 (show i < 2 by omega) (by decide) (g8 i hi2) ?_
        refine x_icmp cd_i57_46 (fun z => ?_) (fun z => ?_)
        · refine x_iinc cd_i57_51 rfl (ii_add _ 1) rfl ?_
          refine x_n cd_i57_54 rfl rfl ?_
          show am_to cd_t _ _ 57 26 _ _ _ _ _ _
          refine ih (i + 1) (by omega) (fun j hlt => ?_)
          by_cases e : j = i
          · rw [e]
            exact (ii_eq (by omega) (by omega)).mp z
          · exact hj j (by omega)
        · have hne : ¬ M.2.2.2.2.1 = N.2.2.2.2.1 := fun w => z (by rw [w]; exact rfl)
          unfold sameT
          rw [beq_eq_false_iff_ne.mpr hne, Bool.and_false]
          refine x_ic cd_i57_49 (z := ii 0) rfl ?_
          show am_to cd_t _ _ 57 50 _ _ _ _ _ _
          exact x_end cd_i57_50 rfl rfl rfl
    refine x_ic cd_i57_24 (z := ii 0) rfl ?_
    refine x_n cd_i57_25 rfl rfl ?_
    try dsimp only [List.set]
    show am_to cd_t _ _ 57 26 _ _ _ _ _ _
    exact loop _ 0 (Nat.zero_add _) (fun j hj => absurd hj (Nat.not_lt_zero j))
  · have : ¬ M.2.2.2.2.1 = N.2.2.2.2.1 := fun w => z (by rw [w]; exact rfl)
    unfold sameT
    rw [beq_eq_false_iff_ne.mpr this, Bool.and_false]
end MB
