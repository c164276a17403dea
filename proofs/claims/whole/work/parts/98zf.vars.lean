section KVA
variable {cs : Nat → Value} {ad : Nat → Nat} {b hi : Nat} {dec : Nat → Option Dec} {pl : Int32} {da : Nat → Nat} {ea : Nat → Nat → Nat} {K : Nat → List Ent} {c : Nat} {z : Int32} {top sl d : Nat} {rk : Nat → Nat} {vs : List (List Nat × Nat)}
theorem X_sco.same {σ σ' : am_H} (h : X_sco σ b vs) (h6 : σ' (b + 6) = σ (b + 6)) (h7 : σ' (b + 7) = σ (b + 7)) (h8 : σ' (b + 8) = σ (b + 8)) : X_sco σ' b vs := by
  obtain ⟨g1, g2, g3, f, g, g4, g5, g6⟩ := h
  exact ⟨h6.trans g1, g2, g3, f, g, h7.trans g4, h8.trans g5, g6⟩
theorem x_keepVars {σ : am_H} (hd : 3 < d) (hSc : X_sco σ b vs) (hV : distV vs) (h : pen ad σ b hi dec pl da ea K 0 z) :
    ∃ (σ' : am_H) (L : List Ent) (w : List Nat) (ty : Nat), am_to cd_t cs d 69 0 (am_ent 2 [.ref (b + 11)]) [] σ top sl (.inl none, σ', top, sl) ∧ cen ad σ' b hi dec pl da ea K 0 z ∧ FG b 0 σ σ' ∧ tgt σ' b 0 L ∧ phr σ' (b + 14) w ty 0 ∧ L8 (fun e => e ∈ vs) L := by
  have hmem : ∀ k, k < vs.length → vs.getD k default ∈ vs := fun k hk => by
    rw [List.getD_eq_getElem?_getD, List.getElem?_eq_getElem hk]
    exact List.getElem_mem hk
  have hok := hSc.2.2.1
  have h5 := hSc.2.1
  have loop : ∀ (m k : Nat) (σ : am_H) (L : List Ent) (w : List Nat) (ty : Nat), k + m = vs.length → cen ad σ b hi dec pl da ea K 0 z → X_sco σ b vs → tgt σ b 0 L → phr σ (b + 14) w ty 0 → L8 (fun e => ∃ q, q < k ∧ e = vs.getD q default) L →
      ∃ (σ' : am_H) (L' : List Ent) (w' : List Nat) (ty' : Nat), am_to cd_t cs d 69 7 [some (.ref (b + 11)), some (.int (ii k))] [] σ top sl (.inl none, σ', top, sl) ∧ FR b 0 σ σ' ∧ tgt σ' b 0 L' ∧ phr σ' (b + 14) w' ty' 0 ∧ L8 (fun e => ∃ q, q < vs.length ∧ e = vs.getD q default) L' := by
    intro m
    induction m with
    | zero =>
      intro k σ L w ty hk hE hS hT hp hL
      rw [show k = vs.length by omega] at hL ⊢
      have h11 := hE.2.1
      have hS1 := hS.1
      refine ⟨σ, L, w, ty, ?_, FR.refl b 0 σ, hT, hp, hL⟩
      refine x_n cd_i69_7 rfl rfl ?_
      refine x_n cd_i69_8 rfl rfl ?_
      refine x_getf cd_i69_9 (by assumption) rfl rfl ?_
      refine x_getf cd_i69_12 (by assumption) rfl rfl ?_
      show am_to cd_t _ _ 69 15 _ _ _ _ _ _
      refine x_icmp_t cd_i69_15 ((ii_le (by omega) (by omega)).mpr (Nat.le_refl _)) ?_
      exact x_end cd_i69_75 rfl rfl rfl
    | succ m ih =>
      intro k σ L w ty hk hE hS hT hp hL
      have hkl : k < vs.length := by omega
      obtain ⟨v1, v2, v3, v4⟩ := hok _ (hmem k hkl)
      have h11 := hE.2.1
      have hp1 := hp.at
      obtain ⟨hS1, -, -, fn, ft, hS2, hS3, hS4⟩ := id hS
      obtain ⟨s1, hs1⟩ : ∃ t, t = am_up σ (b + 14) (.inr (.inl (8, [.ref (b + 14 + 1), .int (ii 0), .int (ii ty), .int (ii 0)]))) := ⟨_, rfl⟩
      have p1 : phr s1 (b + 14) [] ty 0 := by
        rw [hs1]
        exact phr.cut (w := []) (r := w) hp
      have f1 : ∀ y, y ≠ b + 14 → y ≠ b + 14 + 1 → s1 y = σ y := fun y y1 _ => by rw [hs1, am_up_ne _ _ y1]
      obtain ⟨s2, a1, a2, a3⟩ := x_phName (cs := cs) (d := d - 1) (top := top) (sl := sl) (v := (vs.getD k default).1) (by omega) p1 v1 v3
      rw [List.nil_append, List.take_of_length_le (by omega)] at a2
      have f2 : ∀ y, y ≠ b + 14 → y ≠ b + 14 + 1 → s2 y = σ y := fun y y1 y2 => (a3 y y1 y2).trans (f1 y y1 y2)
      obtain ⟨s3, hs3⟩ : ∃ t, t = am_up s2 (b + 14) (.inr (.inl (8, [.ref (b + 14 + 1), .int (ii (vs.getD k default).1.length), .int (ii (vs.getD k default).2), .int (ii 0)]))) := ⟨_, rfl⟩
      have p3 : phr s3 (b + 14) (vs.getD k default).1 (vs.getD k default).2 0 := hs3 ▸ a2.ty
      have f3 : ∀ y, y ≠ b + 14 → y ≠ b + 14 + 1 → s3 y = σ y := fun y y1 y2 => by rw [hs3, am_up_ne _ _ y1, f2 y y1 y2]
      have E1 := hE.kept (by decide) (FR.draft f1)
      have E2 := hE.kept (by decide) (FR.draft f2)
      have E3 := hE.kept (by decide) (FR.draft f3)
      obtain ⟨P, hSh⟩ := hT.draft f3
      have hSh1 := hSh.1
      have hLl : ∀ e ∈ L, low7 e.1 := fun e he y hy => by
        obtain ⟨⟨q, hq, ee⟩, -⟩ := hL.2.2.1 e he
        rw [ee] at hy
        have := (hok _ (hmem q (by omega))).1 y hy
        omega
      obtain ⟨s4, P4, k1, k2, k3⟩ := x_keep (cs := cs) (d := d - 1) (top := top) (sl := sl) (by omega) (by omega) hSh p3 (fun y hy => by have := v1 y hy; omega) hLl
      have f4 : FR b 0 σ s4 := (FR.draft f3).trans (FR.shelf k3)
      have S4 : X_sco s4 b vs := hS.same (f4 _ (by omega) (by omega) (by omega)) (f4 _ (by omega) (by omega) (by omega)) (f4 _ (by omega) (by omega) (by omega))
      have hL' : L8 (fun e => ∃ q, q < k + 1 ∧ e = vs.getD q default) (ins L ((vs.getD k default).1, (vs.getD k default).2)) := by
        refine L8_iff (L8_ins hL (fun x ⟨q, hq, e⟩ z => ?_)) (fun x => ?_)
        · rw [e] at z
          have := hV q k (by omega) hkl z
          omega
        · constructor
          · rintro (⟨q, hq, e⟩ | e)
            · exact ⟨q, by omega, e⟩
            · exact ⟨k, by omega, e⟩
          · rintro ⟨q, hq, e⟩
            by_cases eq : q = k
            · rw [eq] at e
              exact Or.inr e
            · exact Or.inl ⟨q, by omega, e⟩
      obtain ⟨s5, L5, w5, t5, r1, r2, r3, r4, r5⟩ := ih (k + 1) s4 _ _ _ (by omega) (hE.kept (by decide) f4) S4 ⟨P4, k2⟩ (p3.kept (k3 _ (by omega)) (k3 _ (by omega))) hL'
      refine ⟨s5, L5, w5, t5, ?_, f4.trans r2, r3, r4, r5⟩
      have e1 := E1.2.1
      have e2 := E2.2.1
      have e3 := E3.2.1
      have p11 := p1.at
      have a22 := a2.at
      refine x_n cd_i69_7 rfl rfl ?_
      refine x_n cd_i69_8 rfl rfl ?_
      refine x_getf cd_i69_9 (by assumption) rfl rfl ?_
      refine x_getf cd_i69_12 (by assumption) rfl rfl ?_
      show am_to cd_t _ _ 69 15 _ _ _ _ _ _
      refine x_icmp_f cd_i69_15 (fun z => by have := (ii_le (by omega) (by omega)).mp (show ii vs.length ≤ ii k from z); omega) ?_
      refine x_n cd_i69_18 rfl rfl ?_
      refine x_getf cd_i69_19 h11 rfl rfl ?_
      refine x_ic cd_i69_22 (z := ii 0) rfl ?_
      refine x_putf cd_i69_23 (fs' := [.ref (b + 14 + 1), .int (ii 0), .int (ii ty), .int (ii 0)]) hp1 rfl rfl rfl ?_
      refine hs1 ▸ ?_
      refine x_n cd_i69_26 rfl rfl ?_
      refine x_getf cd_i69_27 e1 rfl rfl ?_
      refine x_n cd_i69_30 rfl rfl ?_
      refine x_getf cd_i69_31 e1 rfl rfl ?_
      refine x_getf cd_i69_34 ((f1 _ (by omega) (by omega)).trans hS1) rfl rfl ?_
      refine x_n cd_i69_37 rfl rfl ?_
      refine x_iaload cd_i69_38 ((f1 _ (by omega) (by omega)).trans hS2) (by omega) (by decide) ?_
      rw [(hS4 k hkl).1]
      refine x_callv (as' := [.int (ii (n256 (vs.getD k default).1))]) (r := none) cd_i69_39 p11 (by omega) rfl rfl rfl rfl rfl rfl a1 ?_
      refine x_n cd_i69_42 rfl rfl ?_
      refine x_getf cd_i69_43 e2 rfl rfl ?_
      refine x_n cd_i69_46 rfl rfl ?_
      refine x_getf cd_i69_47 e2 rfl rfl ?_
      refine x_getf cd_i69_50 ((f2 _ (by omega) (by omega)).trans hS1) rfl rfl ?_
      refine x_n cd_i69_53 rfl rfl ?_
      refine x_iaload cd_i69_54 ((f2 _ (by omega) (by omega)).trans hS3) (by omega) (by decide) ?_
      rw [(hS4 k hkl).2]
      refine x_putf cd_i69_55 (fs' := [.ref (b + 14 + 1), .int (ii (vs.getD k default).1.length), .int (ii (vs.getD k default).2), .int (ii 0)]) a22 rfl rfl rfl ?_
      refine hs3 ▸ ?_
      refine x_n cd_i69_58 rfl rfl ?_
      refine x_getf cd_i69_59 e3 rfl rfl ?_
      refine x_n cd_i69_62 rfl rfl ?_
      refine x_getf cd_i69_63 e3 rfl rfl ?_
      refine x_callv (as' := [.ref (b + 14)]) (r := none) cd_i69_66 hSh1 (by omega) rfl rfl rfl rfl rfl rfl k1 ?_
      refine x_iinc cd_i69_69 rfl (ii_add _ 1) rfl ?_
      refine x_n cd_i69_72 rfl rfl ?_
      show am_to cd_t _ _ 69 7 _ _ _ _ _ _
      exact r1
  obtain ⟨-, ⟨t, h11⟩, -⟩ := id h
  obtain ⟨s1, w1, t1, c1, c2, c3, c4, c5⟩ := x_start (cs := cs) (d := d - 1) (top := top) (sl := sl) (by decide) h
  obtain ⟨s2, L2, w2, t2, k1, k2, k3, k4, k5⟩ := loop vs.length 0 s1 [] w1 t1 (Nat.zero_add _) c2 (hSc.same (c5 _ (by omega) (by omega) (by omega) (by omega)) (c5 _ (by omega) (by omega) (by omega) (by omega)) (c5 _ (by omega) (by omega) (by omega) (by omega))) c3 c4 (L8_nil (fun x ⟨q, hq, _⟩ => absurd hq (Nat.not_lt_zero q)))
  refine ⟨s2, L2, w2, t2, ?_, c2.kept (by decide) k2, c5.trans k2.fg, k3, k4, L8_iff k5 (fun x => ⟨fun ⟨q, hq, e⟩ => by rw [e]; exact hmem q hq, fun h => ?_⟩)⟩
  · refine x_n cd_i69_0 rfl rfl ?_
    refine x_ic cd_i69_1 (z := ii 0) rfl ?_
    show am_to cd_t _ _ 69 2 _ _ _ _ _ _
    refine x_callv (as' := [.int (ii 0)]) (r := none) cd_i69_2 h11 (by omega) rfl rfl rfl rfl rfl rfl c1 ?_
    refine x_ic cd_i69_5 (z := ii 0) rfl ?_
    refine x_n cd_i69_6 rfl rfl ?_
    try dsimp only [List.set]
    show am_to cd_t _ _ 69 7 _ _ _ _ _ _
    exact k1
  · obtain ⟨q, hq, e⟩ := List.getElem_of_mem h
    refine ⟨q, hq, ?_⟩
    rw [List.getD_eq_getElem?_getD, List.getElem?_eq_getElem hq, ← e]
    rfl
end KVA
