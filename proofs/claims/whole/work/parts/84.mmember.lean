section MN
variable {cs : Nat → Value} {d m top sl : Nat} {txt : List Nat} {r c : Nat}
/-- the beginning of a member: private or not -/
theorem m_member_head {σ : am_H} {i : Nat → Int32} {a : Nat → Nat → Int32} {p : Nat} {v2 : Value} (hd : 3 < d) (hT : ∀ c ∈ txt, cok c) (hr : r < 66) (hM : mo σ m i a) (hB : M_buf i a txt) (hP : M_at i p) (hp : p ≤ txt.length) :
    ∃ (σ' : am_H) (i' : Nat → Int32) (a' : Nat → Nat → Int32), mo σ' m i' a' ∧ M_buf i' a' txt ∧ M_at i' (if pre txt p wPrivate = true then p + 8 else p) ∧ a' 7 r = b2i (pre txt p wPrivate) ∧ a' 6 r = b2i true ∧ a' 8 r = ii 0 ∧ (∀ k, k ≠ 3 → i' k = i k) ∧ M_row r a a' ∧ (∀ x, x < m ∨ m + 25 ≤ x → σ' x = σ x) ∧
      ∀ res, am_to cd_t cs d 110 38 [some (.ref m), some (.int (ii r)), some v2] [] σ' top sl res → am_to cd_t cs d 110 0 [some (.ref m), some (.int (ii r)), some v2] [] σ top sl res := by
  have hlen := hB.2.1
  obtain ⟨s1, a1, a2, a3⟩ := m_word (cs := cs) (d := d - 1) (top := top) (sl := sl) (n := 8) (a := 112) (b := 114) (c := 105) (e := 118) (f := 97) (g := 116) (by omega) hT hM hB hP (by omega) (by omega) (by decide) (by decide) (by decide) (by decide) (by decide) (by decide)
  rw [show wordL 8 112 114 105 118 97 116 = wPrivate from rfl] at a1 a2
  have h2 := a2.sto 7 (by decide) (by decide) (upd (a 7) r (b2i (pre txt p wPrivate)))
  have h3 := h2.sto 6 (by decide) (by decide) (upd (a 6) r (b2i true))
  have h4 := h3.sto 8 (by decide) (by decide) (upd (a 8) r (ii 0))
  refine ⟨_, _, _, h4, ⟨hB.1, hB.2.1, fun j hj => hB.2.2 j hj⟩, rfl, ?_, ?_, ?_, fun k hk => upd_ne hk, ?_, fun x hx => by rw [am_up_ne _ _ (by omega), am_up_ne _ _ (by omega), am_up_ne _ _ (by omega), a3 x hx], fun res hh => ?_⟩
  · rw [updA_ne (by decide), updA_ne (by decide), updA_eq, upd_eq]
  · rw [updA_ne (by decide), updA_eq, upd_eq]
  · rw [updA_eq, upd_eq]
  · exact ((M_row.sto (a := a) (b2i (pre txt p wPrivate)) (by decide) (by decide)).trans (M_row.sto (a := updA a 7 (upd (a 7) r (b2i (pre txt p wPrivate)))) (b2i true) (by decide) (by decide))).trans (M_row.sto (a := updA (updA a 7 (upd (a 7) r (b2i (pre txt p wPrivate)))) 6 (upd (a 6) r (b2i true))) (ii 0) (by decide) (by decide))
  · refine x_n cd_i110_0 rfl rfl ?_
    refine x_getf cd_i110_1 hM.1 rfl rfl ?_
    refine x_n cd_i110_4 rfl rfl ?_
    refine x_n cd_i110_5 rfl rfl ?_
    refine x_bi cd_i110_6 (z := ii 8) (by decide) ?_
    refine x_bi cd_i110_8 (z := ii 112) (by decide) ?_
    refine x_bi cd_i110_10 (z := ii 114) (by decide) ?_
    refine x_bi cd_i110_12 (z := ii 105) (by decide) ?_
    refine x_bi cd_i110_14 (z := ii 118) (by decide) ?_
    refine x_bi cd_i110_16 (z := ii 97) (by decide) ?_
    refine x_bi cd_i110_18 (z := ii 116) (by decide) ?_
    show am_to cd_t _ _ 110 20 _ _ _ _ _ _
    refine x_callv (as' := [.int (ii 8), .int (ii 112), .int (ii 114), .int (ii 105), .int (ii 118), .int (ii 97), .int (ii 116)]) cd_i110_20 hM.1 (by omega) rfl rfl rfl rfl rfl rfl (a1) ?_
    refine x_bast (s := pre txt p wPrivate) cd_i110_23 (a2.2 7 (by decide) (by decide)) (show r < 66 by omega) (by decide) ?_
    refine x_n cd_i110_24 rfl rfl ?_
    refine x_getf cd_i110_25 h2.1 rfl rfl ?_
    refine x_n cd_i110_28 rfl rfl ?_
    refine x_ic cd_i110_29 (z := ii 1) rfl ?_
    show am_to cd_t _ _ 110 30 _ _ _ _ _ _
    refine x_bast (s := true) cd_i110_30 (h2.2 6 (by decide) (by decide)) (show r < 66 by omega) (by decide) ?_
    refine x_n cd_i110_31 rfl rfl ?_
    refine x_getf cd_i110_32 h3.1 rfl rfl ?_
    refine x_n cd_i110_35 rfl rfl ?_
    refine x_ic cd_i110_36 (z := ii 0) rfl ?_
    show am_to cd_t _ _ 110 37 _ _ _ _ _ _
    refine x_iastore cd_i110_37 (h3.2 8 (by decide) (by decide)) (show _ < 66 by omega) (by decide) ?_
    exact hh
/-- a maker -/
theorem m_member_new {σ : am_H} {i : Nat → Int32} {a : Nat → Nat → Int32} {p : Nat} {pr : Bool} (hd : 4 < d) (hT : ∀ c ∈ txt, cok c) (hr : r < 66) (hM : mo σ m i a) (hB : M_buf i a txt) (hP : M_at i (p + 4)) (hp : p + 4 ≤ txt.length) (hG : i 4 = b2i true) (h7 : a 7 r = b2i pr) (h6 : a 6 r = b2i true) (h8 : a 8 r = ii 0) (hpre : pre txt p wNewP = true) :
    ∃ (σ' : am_H) (i' : Nat → Int32) (a' : Nat → Nat → Int32) (p' : Nat), am_to cd_t cs d 110 56 [some (.ref m), some (.int (ii r)), some (.int (ii c))] [] σ top sl (.inl none, σ', top, sl) ∧ mo σ' m i' a' ∧ M_at i' p' ∧ p' ≤ txt.length ∧ i' 4 = b2i (pMak txt (p + 4) pr c).isSome ∧ (∀ R, pMak txt (p + 4) pr c = some R → p' = R.2 ∧ M_mem a' r R.1) ∧ (∀ k, k ∉ [3, 4] → i' k = i k) ∧ M_row r a a' ∧ ∀ x, x < m ∨ m + 25 ≤ x → σ' x = σ x := by
  have hlen := hB.2.1
  have e40 : txt.getD (p + 3) 0 = 40 := by
    have h := hpre
    unfold wNewP at h
    simp [pre, Nat.add_assoc] at h
    rw [List.getD_eq_getElem?_getD]
    exact h.2.2.2
  have eL : pL txt (p + 3) = pPar txt (p + 4) := by
    unfold pL
    rw [if_pos e40]
  have h1 := hM.put (upd i 3 (ii (p + 3)))
  have h2 := h1.sto 5 (by decide) (by decide) (upd (a 5) r (ii 2))
  have h3 := h2.sto 9 (by decide) (by decide) (upd (a 9) r (ii (3 + c)))
  obtain ⟨s3, hs3⟩ : ∃ z, z = am_up (am_up (am_up σ m (.inr (.inl (11, mo_f m (upd i 3 (ii (p + 3))))))) (m + 5) (.inl (mo_ty 5, mo_sz 5, .inl (upd (a 5) r (ii 2))))) (m + 9) (.inl (mo_ty 9, mo_sz 9, .inl (upd (a 9) r (ii (3 + c))))) := ⟨_, rfl⟩
  rw [← hs3] at h3
  have B3 : M_buf (upd i 3 (ii (p + 3))) (updA (updA a 5 (upd (a 5) r (ii 2))) 9 (upd (a 9) r (ii (3 + c)))) txt := ⟨hB.1, hB.2.1, fun j hj => hB.2.2 j hj⟩
  obtain ⟨s4, i4, a4, p4, k1, k2, k3, k4, k5, k6, k7, k8, k9, k10⟩ := m_readList (cs := cs) (d := d - 1) (top := top) (sl := sl) (r := r) (p := p + 3) (g := true) (by omega) hT hr h3 B3 rfl (by omega) hG
  rw [Bool.true_and, eL] at k5
  rw [eL] at k6
  have eM : (pMak txt (p + 4) pr c).isSome = (pPar txt (p + 4)).isSome := by
    unfold pMak
    rw [Option.isSome_map]
  refine ⟨s4, i4, a4, p4, ?_, k2, k3, k4, by rw [eM]; exact k5, fun R hR => ?_, fun k hk => ?_, ?_, fun x hx => ?_⟩
  · refine x_n cd_i110_56 rfl rfl ?_
    refine x_n cd_i110_57 rfl rfl ?_
    show am_to cd_t _ _ 110 58 _ _ _ _ _ _
    refine x_getf cd_i110_58 hM.1 (congrArg (fun z => some (Value.int z)) (hP)) rfl ?_
    refine x_ic cd_i110_61 (z := ii 1) rfl ?_
    refine x_isub cd_i110_62 (ii_sub (by omega)) ?_
    show am_to cd_t _ _ 110 63 _ _ _ _ _ _
    refine x_putf cd_i110_63 (fs' := mo_f m (upd i 3 (ii (p + 3)))) hM.1 rfl rfl rfl ?_
    refine x_n cd_i110_66 rfl rfl ?_
    refine x_getf cd_i110_67 h1.1 rfl rfl ?_
    refine x_n cd_i110_70 rfl rfl ?_
    refine x_ic cd_i110_71 (z := ii 2) rfl ?_
    show am_to cd_t _ _ 110 72 _ _ _ _ _ _
    refine x_iastore cd_i110_72 (h1.2 5 (by decide) (by decide)) (show _ < 66 by omega) (by decide) ?_
    refine x_n cd_i110_73 rfl rfl ?_
    refine x_getf cd_i110_74 h2.1 rfl rfl ?_
    refine x_n cd_i110_77 rfl rfl ?_
    refine x_ic cd_i110_78 (z := ii 3) rfl ?_
    refine x_n cd_i110_79 rfl rfl ?_
    refine x_iadd cd_i110_80 (ii_add _ _) ?_
    show am_to cd_t _ _ 110 81 _ _ _ _ _ _
    refine x_iastore cd_i110_81 (h2.2 9 (by decide) (by decide)) (show _ < 66 by omega) (by decide) ?_
    refine hs3 ▸ ?_
    refine x_n cd_i110_82 rfl rfl ?_
    refine x_n cd_i110_83 rfl rfl ?_
    show am_to cd_t _ _ 110 84 _ _ _ _ _ _
    refine x_callv (as' := [.int (ii r)]) (r := none) cd_i110_84 h3.1 (by omega) rfl rfl rfl rfl rfl rfl (k1) ?_
    exact x_end cd_i110_87 rfl rfl rfl
  · unfold pMak at hR
    obtain ⟨S, hS, e⟩ := Option.map_eq_some_iff.mp hR
    obtain ⟨l1, l2, l3⟩ := k6 rfl S hS
    rw [← e]
    refine ⟨l1, ?_, ?_, ?_, ?_, ?_, l2, l3⟩
    · rw [k9 5 (by decide) (by decide), updA_ne (by decide), updA_eq, upd_eq]
    · rw [k9 6 (by decide) (by decide), updA_ne (by decide), updA_ne (by decide), h6]
      rfl
    · rw [k9 7 (by decide) (by decide), updA_ne (by decide), updA_ne (by decide), h7]
    · rw [k9 8 (by decide) (by decide), updA_ne (by decide), updA_ne (by decide), h8]
      rfl
    · rw [k9 9 (by decide) (by decide), updA_eq, upd_eq]
  · rw [k7 k hk]
    exact upd_ne (fun z => hk (by rw [z]; decide))
  · exact ((M_row.sto (a := a) (ii 2) (by decide) (by decide)).trans (M_row.sto (a := updA a 5 (upd (a 5) r (ii 2))) (ii (3 + c)) (by decide) (by decide))).trans k8
  · rw [k10 x hx, hs3, am_up_ne _ _ (by omega), am_up_ne _ _ (by omega), am_up_ne _ _ (by omega)]
/-- a field or a method: its name -/
theorem m_member_named {σ : am_H} {i : Nat → Int32} {a : Nat → Nat → Int32} {p : Nat} {pr : Bool} {v2 : Option Value} (hd : 4 < d) (hT : ∀ c ∈ txt, cok c) (hr : r < 66) (hM : mo σ m i a) (hB : M_buf i a txt) (hP : M_at i p) (hp : p ≤ txt.length) (hG : i 4 = b2i true) (h7 : a 7 r = b2i pr) :
    ∃ (σ' : am_H) (i' : Nat → Int32) (a' : Nat → Nat → Int32) (p' : Nat), am_to cd_t cs d 110 88 [some (.ref m), some (.int (ii r)), v2] [] σ top sl (.inl none, σ', top, sl) ∧ mo σ' m i' a' ∧ M_at i' p' ∧ p' ≤ txt.length ∧ i' 4 = b2i (pNam txt p pr).isSome ∧ (∀ R, pNam txt p pr = some R → p' = R.2 ∧ M_mem a' r R.1) ∧ (∀ k, k ∉ [3, 4] → i' k = i k) ∧ M_row r a a' ∧ ∀ x, x < m ∨ m + 25 ≤ x → σ' x = σ x := by
  have hlen := hB.2.1
  obtain ⟨s1, a1, a2, a3⟩ := m_word (cs := cs) (d := d - 1) (top := top) (sl := sl) (n := 7) (a := 115) (b := 116) (c := 97) (e := 116) (f := 105) (g := 99) (by omega) hT hM hB hP (by omega) (by omega) (by decide) (by decide) (by decide) (by decide) (by decide) (by decide)
  rw [show wordL 7 115 116 97 116 105 99 = wStatic from rfl] at a1 a2
  have hpl : (if pre txt p wStatic = true then p + 7 else p) ≤ txt.length := by
    split
    · next hh => exact pre_len wStatic p hp (by decide) hh
    · exact hp
  unfold pNam
  obtain ⟨p2, hp2⟩ : ∃ z, z = (if pre txt p wStatic = true then p + 7 else p) := ⟨_, rfl⟩
  rw [← hp2] at a2 hpl ⊢
  obtain ⟨st, hst⟩ : ∃ z, z = pre txt p wStatic := ⟨_, rfl⟩
  rw [← hst] at a1 ⊢
  have h2 := a2.sto 6 (by decide) (by decide) (upd (a 6) r (b2i st))
  obtain ⟨s2, hs2⟩ : ∃ z, z = am_up s1 (m + 6) (.inl (mo_ty 6, mo_sz 6, .inl (upd (a 6) r (b2i st)))) := ⟨_, rfl⟩
  rw [← hs2] at h2
  have B2 : M_buf (upd i 3 (ii p2)) (updA a 6 (upd (a 6) r (b2i st))) txt := ⟨hB.1, hB.2.1, fun j hj => hB.2.2 j hj⟩
  obtain ⟨s3, i3, c1, c2, c3, c4, c5, c6⟩ := m_readName (cs := cs) (d := d - 1) (top := top) (sl := sl) (p := p2) (g := true) (by omega) hT h2 B2 rfl hG (by omega)
  rw [Bool.true_and] at c4
  have hwl := wl_len txt p2 hpl
  have i3' : ∀ k, k ∉ [3, 4] → i3 k = i k := fun k hk => (c5.1 k hk).trans (upd_ne (fun z => hk (by rw [z]; decide)))
  have f3 : ∀ x, x < m ∨ m + 25 ≤ x → s3 x = σ x := fun x hx => by rw [c6 x hx, hs2, am_up_ne _ _ (by omega), a3 x hx]
  obtain ⟨q, hq⟩ : ∃ z, z = p2 + (wl txt p2).length := ⟨_, rfl⟩
  rw [← hq] at c3 hwl
  have h4 := c2.sto 8 (by decide) (by decide) (upd (a 8) r (ii (wv27 txt p2)))
  obtain ⟨s4, hs4⟩ : ∃ z, z = am_up s3 (m + 8) (.inl (mo_ty 8, mo_sz 8, .inl (upd (a 8) r (ii (wv27 txt p2))))) := ⟨_, rfl⟩
  rw [← hs4] at h4
  have B4 : M_buf i3 (updA (updA a 6 (upd (a 6) r (b2i st))) 8 (upd (a 8) r (ii (wv27 txt p2)))) txt := ⟨(i3' 2 (by decide)).trans hB.1, hB.2.1, fun j hj => hB.2.2 j hj⟩
  have look := m_look (cs := cs) (d := d - 1) (top := top) (sl := sl) (k := 0) h4 B4 c3 hT (by omega) (by decide)
  rw [Nat.add_zero] at look
  have hlq := getD_cok hT q
  have row4 : M_row r a (updA (updA a 6 (upd (a 6) r (b2i st))) 8 (upd (a 8) r (ii (wv27 txt p2)))) := (M_row.sto (a := a) (b2i st) (by decide) (by decide)).trans (M_row.sto (a := updA a 6 (upd (a 6) r (b2i st))) (ii (wv27 txt p2)) (by decide) (by decide))
  have go4 : ∀ res, am_to cd_t cs d 110 134 [some (.ref m), some (.int (ii r)), v2] [.int (ii 40), .int (ii (txt.getD q 0)), .int (ii r), .ref (m + 5)] s4 top sl res → am_to cd_t cs d 110 88 [some (.ref m), some (.int (ii r)), v2] [] σ top sl res := by
    intro res hh
    refine x_n cd_i110_88 rfl rfl ?_
    refine x_getf cd_i110_89 hM.1 rfl rfl ?_
    refine x_n cd_i110_92 rfl rfl ?_
    refine x_n cd_i110_93 rfl rfl ?_
    refine x_bi cd_i110_94 (z := ii 7) (by decide) ?_
    refine x_bi cd_i110_96 (z := ii 115) (by decide) ?_
    refine x_bi cd_i110_98 (z := ii 116) (by decide) ?_
    refine x_bi cd_i110_100 (z := ii 97) (by decide) ?_
    refine x_bi cd_i110_102 (z := ii 116) (by decide) ?_
    refine x_bi cd_i110_104 (z := ii 105) (by decide) ?_
    refine x_bi cd_i110_106 (z := ii 99) (by decide) ?_
    show am_to cd_t _ _ 110 108 _ _ _ _ _ _
    refine x_callv (as' := [.int (ii 7), .int (ii 115), .int (ii 116), .int (ii 97), .int (ii 116), .int (ii 105), .int (ii 99)]) cd_i110_108 hM.1 (by omega) rfl rfl rfl rfl rfl rfl (a1) ?_
    refine x_bast (s := st) cd_i110_111 (a2.2 6 (by decide) (by decide)) (show r < 66 by omega) (by decide) ?_
    refine hs2 ▸ ?_
    refine x_n cd_i110_112 rfl rfl ?_
    refine x_getf cd_i110_113 h2.1 rfl rfl ?_
    refine x_n cd_i110_116 rfl rfl ?_
    refine x_n cd_i110_117 rfl rfl ?_
    show am_to cd_t _ _ 110 118 _ _ _ _ _ _
    refine x_callv (as' := []) cd_i110_118 h2.1 (by omega) rfl rfl rfl rfl rfl rfl (c1) ?_
    refine x_iastore cd_i110_121 (c2.2 8 (by decide) (by decide)) (show _ < 66 by omega) (by decide) ?_
    refine hs4 ▸ ?_
    refine x_n cd_i110_122 rfl rfl ?_
    refine x_getf cd_i110_123 h4.1 rfl rfl ?_
    refine x_n cd_i110_126 rfl rfl ?_
    refine x_n cd_i110_127 rfl rfl ?_
    refine x_ic cd_i110_128 (z := ii 0) rfl ?_
    show am_to cd_t _ _ 110 129 _ _ _ _ _ _
    refine x_callv (as' := [.int (ii 0)]) cd_i110_129 h4.1 (by omega) rfl rfl rfl rfl rfl rfl (look) ?_
    refine x_bi cd_i110_132 (z := ii 40) (by decide) ?_
    show am_to cd_t _ _ 110 134 _ _ _ _ _ _
    exact hh
  have five : ∀ kd : Nat, ∃ (s5 : am_H) (a5 : Nat → Nat → Int32), mo s5 m i3 a5 ∧ M_buf i3 a5 txt ∧ a5 5 r = ii kd ∧ a5 6 r = b2i st ∧ a5 7 r = b2i pr ∧ a5 8 r = ii (wv27 txt p2) ∧ a5 10 r = ii 0 ∧ M_row r a a5 ∧ (∀ x, x < m ∨ m + 25 ≤ x → s5 x = σ x) ∧ ∀ res, am_to cd_t cs d 110 150 [some (.ref m), some (.int (ii r)), v2] [] s5 top sl res → am_to cd_t cs d 110 142 [some (.ref m), some (.int (ii r)), v2] [.int (ii kd), .int (ii r), .ref (m + 5)] s4 top sl res := by
    intro kd
    have h5 := h4.sto 5 (by decide) (by decide) (upd (a 5) r (ii kd))
    have h6 := h5.sto 10 (by decide) (by decide) (upd (a 10) r (ii 0))
    refine ⟨_, _, h6, ⟨B4.1, hB.2.1, fun j hj => hB.2.2 j hj⟩, ?_, ?_, ?_, ?_, ?_, ?_, fun x hx => ?_, fun res hh => ?_⟩
    · rw [updA_ne (by decide), updA_eq, upd_eq]
    · rw [updA_ne (by decide), updA_ne (by decide), updA_ne (by decide), updA_eq, upd_eq]
    · rw [updA_ne (by decide), updA_ne (by decide), updA_ne (by decide), updA_ne (by decide), h7]
    · rw [updA_ne (by decide), updA_ne (by decide), updA_eq, upd_eq]
    · rw [updA_eq, upd_eq]
    · exact row4.trans ((M_row.sto (a := updA (updA a 6 (upd (a 6) r (b2i st))) 8 (upd (a 8) r (ii (wv27 txt p2)))) (ii kd) (by decide) (by decide)).trans (M_row.sto (a := updA (updA (updA a 6 (upd (a 6) r (b2i st))) 8 (upd (a 8) r (ii (wv27 txt p2)))) 5 (upd (a 5) r (ii kd))) (ii 0) (by decide) (by decide)))
    · rw [am_up_ne _ _ (by omega), am_up_ne _ _ (by omega), hs4, am_up_ne _ _ (by omega)]
      exact f3 x hx
    · refine x_iastore cd_i110_142 (h4.2 5 (by decide) (by decide)) (show _ < 66 by omega) (by decide) ?_
      refine x_n cd_i110_143 rfl rfl ?_
      refine x_getf cd_i110_144 h5.1 rfl rfl ?_
      refine x_n cd_i110_147 rfl rfl ?_
      refine x_ic cd_i110_148 (z := ii 0) rfl ?_
      show am_to cd_t _ _ 110 149 _ _ _ _ _ _
      refine x_iastore cd_i110_149 (h5.2 10 (by decide) (by decide)) (show _ < 66 by omega) (by decide) ?_
      exact hh
  by_cases hc : txt.getD q 0 = 40
  · obtain ⟨s5, a5, h5, B5, e5, e6, e7, e8, e10, row5, f5, go5⟩ := five 1
    obtain ⟨s6, i6, a6, p6, k1, k2, k3, k4, k5, k6, k7, k8, k9, k10⟩ := m_readList (cs := cs) (d := d - 1) (top := top) (sl := sl) (r := r) (p := q) (g := (tkN txt p2).isSome) (by omega) hT hr h5 B5 c3 hwl c4
    have eL : pL txt q = pPar txt (q + 1) := by
      unfold pL
      rw [if_pos hc]
    rw [eL] at k5 k6
    have B6 : M_buf i6 a6 txt := ⟨(k7 2 (by decide)).trans B5.1, hB.2.1, fun j hj => by rw [k9 1 (by decide) (by decide)]; exact B5.2.2 j hj⟩
    obtain ⟨s7, i7, z, p7, l1, l2, l3, l4, l5, l6, l7, l8⟩ := m_member_tail (cs := cs) (d := d) (top := top) (sl := sl) (v2 := v2) (by omega) hT hr k2 B6 k3 k4 k5
    refine ⟨s7, i7, _, p7, go4 _ ?_, l2, l3, l4, ?_, fun R hR => ?_, fun k hk => (l7 k hk).trans ((k7 k hk).trans (i3' k hk)), row5.trans (k8.trans (M_row.sto z (by decide) (by decide))), fun x hx => (l8 x hx).trans ((k10 x hx).trans (f5 x hx))⟩
    · refine x_icmp_f cd_i110_134 (fun y => y (by rw [hc])) ?_
      refine x_ic cd_i110_137 (z := ii 1) rfl ?_
      refine x_n cd_i110_138 rfl rfl ?_
      show am_to cd_t _ _ 110 142 _ _ _ _ _ _
      refine go5 _ ?_
      refine x_n cd_i110_150 rfl rfl ?_
      refine x_getf cd_i110_151 h5.1 rfl rfl ?_
      refine x_n cd_i110_154 rfl rfl ?_
      show am_to cd_t _ _ 110 155 _ _ _ _ _ _
      refine x_iald cd_i110_155 (h5.2 5 (by decide) (by decide)) (show _ < 66 by omega) (by decide) (e5) ?_
      refine x_ic cd_i110_156 (z := ii 1) rfl ?_
      show am_to cd_t _ _ 110 157 _ _ _ _ _ _
      refine x_icmp_f cd_i110_157 (fun y => y rfl) ?_
      refine x_n cd_i110_160 rfl rfl ?_
      refine x_n cd_i110_161 rfl rfl ?_
      show am_to cd_t _ _ 110 162 _ _ _ _ _ _
      refine x_callv (as' := [.int (ii r)]) (r := none) cd_i110_162 h5.1 (by omega) rfl rfl rfl rfl rfl rfl (k1) ?_
      exact l1
    · rw [l5]
      unfold pNam2
      cases hN : tkN txt p2 with
      | none => rfl
      | some w =>
        dsimp only
        rw [← hq, if_pos hc]
        cases hL : pPar txt (q + 1) with
        | none => rfl
        | some S =>
          have := (k6 (by rw [hN]; rfl) S hL).1
          dsimp only
          rw [this, Option.isSome_map]
          rfl
    · unfold pNam2 at hR
      cases hN : tkN txt p2 with
      | none =>
        rw [hN] at hR
        cases hR
      | some w =>
        obtain ⟨w0, w1, w2, w3⟩ := tkN_some hN
        rw [hN] at hR k6 l6
        dsimp only at hR
        rw [← hq, if_pos hc] at hR
        cases hL : pPar txt (q + 1) with
        | none =>
          rw [hL] at hR
          cases hR
        | some S =>
          rw [hL] at hR l6
          dsimp only at hR
          obtain ⟨y1, y2, y3⟩ := k6 rfl S hL
          obtain ⟨T, hT', e⟩ := Option.map_eq_some_iff.mp hR
          rw [y1] at l6
          obtain ⟨z1, z2⟩ := l6 rfl T hT'
          rw [← e]
          refine ⟨z1, ?_, ?_, ?_, ?_, ?_, ?_, fun j hj => ?_⟩
          · rw [updA_ne (by decide), k9 5 (by decide) (by decide), e5]
          · rw [updA_ne (by decide), k9 6 (by decide) (by decide), e6]
            cases st <;> rfl
          · rw [updA_ne (by decide), k9 7 (by decide) (by decide), e7]
          · rw [updA_ne (by decide), k9 8 (by decide) (by decide), e8]
            unfold wv27
            rw [← w0, if_pos w3]
          · rw [updA_eq, upd_eq, z2]
          · rw [updA_ne (by decide), y2]
          · rw [updA_ne (by decide)]
            exact y3 j hj
  · obtain ⟨s5, a5, h5, B5, e5, e6, e7, e8, e10, row5, f5, go5⟩ := five 0
    obtain ⟨s7, i7, z, p7, l1, l2, l3, l4, l5, l6, l7, l8⟩ := m_member_tail (cs := cs) (d := d) (top := top) (sl := sl) (v2 := v2) (by omega) hT hr h5 B5 c3 hwl c4
    refine ⟨s7, i7, _, p7, go4 _ ?_, l2, l3, l4, ?_, fun R hR => ?_, fun k hk => (l7 k hk).trans (i3' k hk), row5.trans (M_row.sto z (by decide) (by decide)), fun x hx => (l8 x hx).trans (f5 x hx)⟩
    · refine x_icmp_t cd_i110_134 (fun y => hc ((ii_eq (by omega) (by decide)).mp y)) ?_
      refine x_ic cd_i110_141 (z := ii 0) rfl ?_
      show am_to cd_t _ _ 110 142 _ _ _ _ _ _
      refine go5 _ ?_
      refine x_n cd_i110_150 rfl rfl ?_
      refine x_getf cd_i110_151 h5.1 rfl rfl ?_
      refine x_n cd_i110_154 rfl rfl ?_
      show am_to cd_t _ _ 110 155 _ _ _ _ _ _
      refine x_iald cd_i110_155 (h5.2 5 (by decide) (by decide)) (show _ < 66 by omega) (by decide) (e5) ?_
      refine x_ic cd_i110_156 (z := ii 1) rfl ?_
      show am_to cd_t _ _ 110 157 _ _ _ _ _ _
      refine x_icmp_t cd_i110_157 (fun y => absurd (show ii 0 = ii 1 from y) (by decide)) ?_
      exact l1
    · rw [l5]
      unfold pNam2
      cases hN : tkN txt p2 with
      | none => rfl
      | some w =>
        dsimp only
        rw [← hq, if_neg hc, Option.isSome_map]
        rfl
    · unfold pNam2 at hR
      cases hN : tkN txt p2 with
      | none =>
        rw [hN] at hR
        cases hR
      | some w =>
        obtain ⟨w0, w1, w2, w3⟩ := tkN_some hN
        rw [hN] at hR l6
        dsimp only at hR
        rw [← hq, if_neg hc] at hR
        obtain ⟨T, hT', e⟩ := Option.map_eq_some_iff.mp hR
        obtain ⟨z1, z2⟩ := l6 rfl T hT'
        rw [← e]
        refine ⟨z1, ?_, ?_, ?_, ?_, ?_, ?_, fun j hj => absurd hj (Nat.not_lt_zero j)⟩
        · rw [updA_ne (by decide), e5]
        · rw [updA_ne (by decide), e6]
          cases st <;> rfl
        · rw [updA_ne (by decide), e7]
        · rw [updA_ne (by decide), e8]
          unfold wv27
          rw [← w0, if_pos w3]
        · rw [updA_eq, upd_eq, z2]
        · rw [updA_ne (by decide), e10]
          rfl
theorem m_readMember {σ : am_H} {i : Nat → Int32} {a : Nat → Nat → Int32} {p : Nat} (hd : 4 < d) (hT : ∀ c ∈ txt, cok c) (hr : r < 66) (hM : mo σ m i a) (hB : M_buf i a txt) (hP : M_at i p) (hp : p ≤ txt.length) (hG : i 4 = b2i true) :
    ∃ (σ' : am_H) (i' : Nat → Int32) (a' : Nat → Nat → Int32) (p' : Nat), am_to cd_t cs d 110 0 (am_ent 3 [.ref m, .int (ii r), .int (ii c)]) [] σ top sl (.inl none, σ', top, sl) ∧ mo σ' m i' a' ∧ M_at i' p' ∧ p' ≤ txt.length ∧ i' 4 = b2i (pMem txt p c).isSome ∧ (∀ R, pMem txt p c = some R → p' = R.2 ∧ M_mem a' r R.1) ∧ (∀ k, k ∉ [3, 4] → i' k = i k) ∧ M_row r a a' ∧ ∀ x, x < m ∨ m + 25 ≤ x → σ' x = σ x := by
  have hlen := hB.2.1
  obtain ⟨s1, i1, a1, h1, B1, P1, e7, e6, e8, I1, row1, f1, go1⟩ := m_member_head (cs := cs) (d := d) (top := top) (sl := sl) (v2 := .int (ii c)) (by omega) hT hr hM hB hP hp
  have hpl : (if pre txt p wPrivate = true then p + 8 else p) ≤ txt.length := by
    split
    · next hh => exact pre_len wPrivate p hp (by decide) hh
    · exact hp
  unfold pMem
  obtain ⟨p1, hp1⟩ : ∃ z, z = (if pre txt p wPrivate = true then p + 8 else p) := ⟨_, rfl⟩
  rw [← hp1] at P1 hpl ⊢
  obtain ⟨pr, hpr⟩ : ∃ z, z = pre txt p wPrivate := ⟨_, rfl⟩
  rw [← hpr] at e7 ⊢
  obtain ⟨s2, b1, b2, b3⟩ := m_word (cs := cs) (d := d - 1) (top := top) (sl := sl) (n := 4) (a := 110) (b := 101) (c := 119) (e := 40) (f := 0) (g := 0) (by omega) hT h1 B1 P1 (by omega) (by omega) (by decide) (by decide) (by decide) (by decide) (by decide) (by decide)
  rw [show wordL 4 110 101 119 40 0 0 = wNewP from rfl] at b1 b2
  have G1 : i1 4 = b2i true := (I1 4 (by decide)).trans hG
  have go2 : ∀ res, am_to cd_t cs d 110 53 [some (.ref m), some (.int (ii r)), some (.int (ii c))] [.int (b2i (pre txt p1 wNewP))] s2 top sl res → am_to cd_t cs d 110 0 (am_ent 3 [.ref m, .int (ii r), .int (ii c)]) [] σ top sl res := by
    intro res hh
    refine go1 res ?_
    refine x_n cd_i110_38 rfl rfl ?_
    refine x_ic cd_i110_39 (z := ii 4) rfl ?_
    refine x_bi cd_i110_40 (z := ii 110) (by decide) ?_
    refine x_bi cd_i110_42 (z := ii 101) (by decide) ?_
    refine x_bi cd_i110_44 (z := ii 119) (by decide) ?_
    refine x_bi cd_i110_46 (z := ii 40) (by decide) ?_
    refine x_ic cd_i110_48 (z := ii 0) rfl ?_
    refine x_ic cd_i110_49 (z := ii 0) rfl ?_
    show am_to cd_t _ _ 110 50 _ _ _ _ _ _
    refine x_callv (as' := [.int (ii 4), .int (ii 110), .int (ii 101), .int (ii 119), .int (ii 40), .int (ii 0), .int (ii 0)]) cd_i110_50 h1.1 (by omega) rfl rfl rfl rfl rfl rfl (b1) ?_
    exact hh
  unfold pMem2
  cases hn : pre txt p1 wNewP with
  | true =>
    have hl4 := pre_len wNewP p1 hpl (by decide) hn
    rw [hn] at b2 go2
    rw [if_pos rfl] at b2 ⊢
    have B2 : M_buf (upd i1 3 (ii (p1 + 4))) a1 txt := B1
    obtain ⟨s3, i3, a3, p3, k1, k2, k3, k4, k5, k6, k7, k8, k9⟩ := m_member_new (cs := cs) (d := d) (top := top) (sl := sl) (c := c) (pr := pr) hd hT hr b2 B2 rfl hl4 G1 e7 e6 e8 hn
    refine ⟨s3, i3, a3, p3, go2 _ ?_, k2, k3, k4, k5, k6, fun k hk => ?_, row1.trans k8, fun x hx => (k9 x hx).trans ((b3 x hx).trans (f1 x hx))⟩
    · refine x_if_f cd_i110_53 (fun z => absurd (show (1 : Int32) = 0 from z) (by decide)) ?_
      exact k1
    · have h3 : k ≠ 3 := fun z => hk (by rw [z]; decide)
      rw [k7 k hk, upd_ne h3, I1 k h3]
  | false =>
    rw [hn] at b2 go2
    rw [if_neg (by decide)] at b2 ⊢
    have B2 : M_buf (upd i1 3 (ii p1)) a1 txt := B1
    obtain ⟨s3, i3, a3, p3, k1, k2, k3, k4, k5, k6, k7, k8, k9⟩ := m_member_named (cs := cs) (d := d) (top := top) (sl := sl) (pr := pr) (v2 := some (.int (ii c))) hd hT hr b2 B2 rfl hpl G1 e7
    refine ⟨s3, i3, a3, p3, go2 _ ?_, k2, k3, k4, k5, k6, fun k hk => ?_, row1.trans k8, fun x hx => (k9 x hx).trans ((b3 x hx).trans (f1 x hx))⟩
    · refine x_if_t cd_i110_53 rfl ?_
      exact k1
    · have h3 : k ≠ 3 := fun z => hk (by rw [z]; decide)
      rw [k7 k hk, upd_ne h3, I1 k h3]
end MN
