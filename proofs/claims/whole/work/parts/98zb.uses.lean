section KUS
variable {cs : Nat → Value} {ad : Nat → Nat} {b hi : Nat} {dec : Nat → Option Dec} {pl : Int32} {da : Nat → Nat} {ea : Nat → Nat → Nat} {K : Nat → List Ent} {c : Nat} {z : Int32} {x j : Nat} {r : Option Ent} {top sl d : Nat} {rk : Nat → Nat} {D : Dec}
theorem x_uses {σ : am_H} {L : List Ent} {P0 : Tup → Prop} {left ty : Nat} (hd : 5 < d) (hcs : csOk cs ad) (hO : catOk dec) (hrk : ranked dec rk) (hK : Kok K c) (hc4 : c < 4) (hD : dec x = some D) (hj : j < D.2.length) (hrv : RV dec pl K c (x, j) r) (hcst : 1 + recC r + left = c) (hE : cen ad σ b hi dec pl da ea K c z) (hT : tgt σ b c L) (hp : phr σ (b + 14) ((preT (memQ dec (x, j)) (x, j) r).take 25) ty c) (hP : ∀ s, P0 s → Val dec pl K c s) (hP0 : ∀ s, P0 s → ¬ (s.1 = (x, j) ∧ s.2.1 = r)) (hL : L8 (ImT dec P0) L) :
    ∃ (σ' : am_H) (L' : List Ent) (w' : List Nat), am_to cd_t cs d 82 0 (am_ent 3 [.ref (b + 11), .ref (ea x j), .int (ii left)]) [] σ top sl (.inl none, σ', top, sl) ∧ FR b c σ σ' ∧ tgt σ' b c L' ∧ phr σ' (b + 14) ((preT (memQ dec (x, j)) (x, j) r).take 25 ++ w') (memQ dec (x, j)).2.2.2.2.2 c ∧ L8 (ImT dec (fun s => P0 s ∨ (Val dec pl K c s ∧ s.1 = (x, j) ∧ s.2.1 = r))) L' := by
  have hx := (hrk x D hD).1
  have em : memQ dec (x, j) = D.2.getD j default := by unfold memQ memsOf; rw [hD]
  have hMok : memOk (memQ dec (x, j)) := by rw [em]; exact (hO x D hD).2.1 _ (getD_mem hj)
  have h11 := hE.2.1
  have hp1 := hp.at
  obtain ⟨mp, mf, e1, e2, e3, e4⟩ := hE.mem hx hD hj
  obtain ⟨s1, hs1⟩ : ∃ t, t = am_up σ (b + 14) (.inr (.inl (8, [.ref (b + 14 + 1), .int (ii ((preT (memQ dec (x, j)) (x, j) r).take 25).length), .int (ii (memQ dec (x, j)).2.2.2.2.2), .int (ii c)]))) := ⟨_, rfl⟩
  have p1 : phr s1 (b + 14) ((preT (memQ dec (x, j)) (x, j) r).take 25) (memQ dec (x, j)).2.2.2.2.2 c := hs1 ▸ hp.ty
  have f1 : ∀ y, y ≠ b + 14 → y ≠ b + 14 + 1 → s1 y = σ y := fun y y1 _ => by rw [hs1, am_up_ne _ _ y1]
  have E1 := hE.kept hc4 (FR.draft f1)
  have T1 := hT.draft f1
  have g11 := E1.2.1
  obtain ⟨mp', mf', k1, k2, k3, k4⟩ := E1.mem hx hD hj
  have go : ∀ res, am_to cd_t cs d 82 18 [some (.ref (b + 11)), some (.ref (ea x j)), some (.int (ii left))] [.ref (ad 0), .ref (ad (memQ dec (x, j)).1)] s1 top sl res → am_to cd_t cs d 82 0 (am_ent 3 [.ref (b + 11), .ref (ea x j), .int (ii left)]) [] σ top sl res := by
    intro res hh
    refine x_n cd_i82_0 rfl rfl ?_
    refine x_getf cd_i82_1 h11 rfl rfl ?_
    refine x_n cd_i82_4 rfl rfl ?_
    refine x_getf cd_i82_5 e1 rfl rfl ?_
    refine x_putf cd_i82_8 (fs' := [.ref (b + 14 + 1), .int (ii ((preT (memQ dec (x, j)) (x, j) r).take 25).length), .int (ii (memQ dec (x, j)).2.2.2.2.2), .int (ii c)]) hp1 rfl rfl rfl ?_
    refine hs1 ▸ ?_
    refine x_n cd_i82_11 rfl rfl ?_
    refine x_getf cd_i82_12 k1 rfl rfl ?_
    refine x_n cd_i82_15 rfl rfl ?_
    rw [hcs.1]
    exact hh
  by_cases hf : (memQ dec (x, j)).1 = 0
  · have hps : (memQ dec (x, j)).2.2.2.2.1 = [] := hMok.2.2.2.2.2.2.2 hf
    have only : ∀ s, Val dec pl K c s → s.1 = (x, j) → s.2.1 = r → s = ((x, j), r, []) := by
      intro s hv h1 h2
      have l1 := fitsL_len hv.2.2.2.1
      rw [h1, hps] at l1
      have h3 : s.2.2 = [] := List.length_eq_zero_iff.mp l1
      obtain ⟨s1, s2, s3⟩ := s
      rw [show s1 = (x, j) from h1, show s2 = r from h2, show s3 = [] from h3]
    have go2 : ∀ res, am_to cd_t cs d 82 41 [some (.ref (b + 11)), some (.ref (ea x j)), some (.int (ii left))] [.int (ii left)] s1 top sl res → am_to cd_t cs d 82 0 (am_ent 3 [.ref (b + 11), .ref (ea x j), .int (ii left)]) [] σ top sl res := by
      intro res hh
      refine go res (x_aceq cd_i82_18 (fun _ => ?_) (fun y => absurd (by rw [hf]) y))
      refine x_n cd_i82_40 rfl rfl ?_
      show am_to cd_t _ _ 82 41 _ _ _ _ _ _
      exact hh
    by_cases h0 : left = 0
    · have hv : Val dec pl K c ((x, j), r, []) := Val.mk hD hj hrv (fun u hu => by cases hu) (by rw [hps]; exact trivial) (by show 1 + recC r + 0 = c; omega)
      have eT : txT dec ((x, j), r, []) = preT (memQ dec (x, j)) (x, j) r := by
        unfold txT tailT
        show preT (memQ dec (x, j)) (x, j) r ++ (if (memQ dec (x, j)).1 = 0 then [] else 40 :: argT [] ++ [41]) = _
        rw [if_pos hf, List.append_nil]
      rw [← eT] at p1 ⊢
      obtain ⟨P, hS⟩ := T1
      have hS1 := hS.1
      obtain ⟨s2, P2, q1, q2, q3⟩ := x_keep (cs := cs) (d := d - 1) (top := top) (sl := sl) (by omega) (by omega) hS p1 (low7_take (fun y hy => (hv.let hO hrk hK y hy).2) 25) (L8_low hO hrk hK hP hL)
      rw [ins_take25] at q2
      refine ⟨s2, _, [], go2 _ ?_, (FR.draft f1).trans (FR.shelf q3), ⟨P2, q2⟩, ?_, ?_⟩
      · rw [h0]
        refine x_if_f cd_i82_41 (fun z => absurd (show ii 0 = 0 from rfl) z) ?_
        refine x_n cd_i82_44 rfl rfl ?_
        refine x_getf cd_i82_45 g11 rfl rfl ?_
        refine x_n cd_i82_48 rfl rfl ?_
        refine x_getf cd_i82_49 g11 rfl rfl ?_
        refine x_callv (as' := [.ref (b + 14)]) (r := none) cd_i82_52 hS1 (by omega) rfl rfl rfl rfl rfl rfl q1 ?_
        exact x_end cd_i82_55 rfl rfl rfl
      · rw [List.append_nil]
        exact p1.kept (q3 _ (by omega)) (q3 _ (by omega))
      · refine ImT_iff (L8_step hO hrk hK hP hv (fun z => hP0 _ z ⟨rfl, rfl⟩) hL) (fun s => ?_)
        constructor
        · rintro (h | h)
          · exact Or.inl h
          · rw [h]
            exact Or.inr ⟨hv, rfl, rfl⟩
        · rintro (h | ⟨h, h1, h2⟩)
          · exact Or.inl h
          · exact Or.inr (only s h h1 h2)
    · refine ⟨s1, L, [], go2 _ ?_, FR.draft f1, T1, by rw [List.append_nil]; exact p1, ImT_iff hL (fun s => ?_)⟩
      · refine x_if_t cd_i82_41 (fun z => h0 ((ii_eq (b := 0) (by omega) (by decide)).mp z)) ?_
        exact x_end cd_i82_55 rfl rfl rfl
      · constructor
        · exact Or.inl
        · rintro (h | ⟨h, h1, h2⟩)
          · exact h
          · have h5 := h.2.2.2.2
            rw [only s h h1 h2] at h5
            have h5 : 1 + recC r + 0 = c := h5
            omega
  · obtain ⟨s2, b1, b2, b3⟩ := x_phAdd (cs := cs) (d := d - 1) (top := top) (sl := sl) (c := 40) p1 (by decide)
    rw [take_app25] at b2
    have f2 : ∀ y, y ≠ b + 14 → y ≠ b + 14 + 1 → s2 y = σ y := fun y y1 y2 => (b3 y y1 y2).trans (f1 y y1 y2)
    have E2 := hE.kept hc4 (FR.draft f2)
    have h3 := hMok.2.2.2.2.1
    obtain ⟨s3, L3, w3, q1, q2, q3, q4, q5⟩ := kc_all (cs := cs) (ad := ad) (b := b) (hi := hi) (da := da) (ea := ea) (z := z) (top := top) (sl := sl) hO hrk hK hc4 hD hj hf hrv (memQ dec (x, j)).2.2.2.2.1.length (d - 1) (by omega) [] left s2 L P0 (Nat.zero_add _) (fun u hu => by cases hu) (by rw [List.length_nil, List.take_zero]; exact trivial) (by show 1 + recC r + 0 + left = c; omega) E2 (hT.draft f2) b2 hP (fun s h1 h2 => hP0 s h1 ⟨h2.1, h2.2.1⟩) hL
    obtain ⟨w4, hw4⟩ : ∃ w4, (preT (memQ dec (x, j)) (x, j) r ++ 40 :: argT []).take 25 = (preT (memQ dec (x, j)) (x, j) r).take 25 ++ w4 := ⟨_, List.take_append⟩
    have g2 := E2.2.1
    have p11 := p1.at
    refine ⟨s3, L3, w4 ++ w3, go _ ?_, (FR.draft f2).trans q2, q3, ?_, ImT_iff q5 (fun s => ?_)⟩
    · refine x_aceq cd_i82_18 (fun y => absurd (hcs.2.2.2.2.2 _ _ hMok.1 (by decide) y) hf) (fun _ => ?_)
      refine x_n cd_i82_21 rfl rfl ?_
      refine x_getf cd_i82_22 g11 rfl rfl ?_
      refine x_bi cd_i82_25 (z := ii 40) (by decide) ?_
      refine x_callv (as' := [.int (ii 40)]) (r := none) cd_i82_27 p11 (by omega) rfl rfl rfl rfl rfl rfl b1 ?_
      refine x_n cd_i82_30 rfl rfl ?_
      refine x_n cd_i82_31 rfl rfl ?_
      refine x_ic cd_i82_32 (z := ii 0) rfl ?_
      refine x_n cd_i82_33 rfl rfl ?_
      show am_to cd_t _ _ 82 34 _ _ _ _ _ _
      refine x_callv (as' := [.ref (ea x j), .int (ii 0), .int (ii left)]) (r := none) cd_i82_34 g2 (by omega) rfl rfl rfl rfl rfl rfl q1 ?_
      refine x_n cd_i82_37 rfl rfl ?_
      show am_to cd_t _ _ 82 55 _ _ _ _ _ _
      exact x_end cd_i82_55 rfl rfl rfl
    · rw [← List.append_assoc, ← hw4]
      exact q4
    · unfold NA
      constructor
      · rintro (h | ⟨h, h1, h2, -⟩)
        · exact Or.inl h
        · exact Or.inr ⟨h, h1, h2⟩
      · rintro (h | ⟨h, h1, h2⟩)
        · exact Or.inl h
        · exact Or.inr ⟨h, h1, h2, s.2.2, rfl⟩
end KUS
