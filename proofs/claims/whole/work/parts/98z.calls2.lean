section KCT
variable {cs : Nat → Value} {ad : Nat → Nat} {b hi : Nat} {dec : Nat → Option Dec} {pl : Int32} {da : Nat → Nat} {ea : Nat → Nat → Nat} {K : Nat → List Ent} {c : Nat} {z : Int32} {x j : Nat} {r : Option Ent} {top sl d n : Nat} {rk : Nat → Nat} {D : Dec}
theorem Pc_step {as : List Ent} {P0 : Tup → Prop} {cost i : Nat} {q : Nat × Nat} (hi : i < (K cost).length) (hc : cst ((K cost).getD i default).1 = cost) (s : Tup) : (Pc dec pl K c q r as P0 cost i s ∨ (Val dec pl K c s ∧ NA q r (as ++ [(K cost).getD i default]) s)) ↔ Pc dec pl K c q r as P0 cost (i + 1) s := by
  have et : (K cost).take (i + 1) = (K cost).take i ++ [(K cost).getD i default] := by
    rw [List.take_add_one, List.getElem?_eq_getElem hi, entD_in hi]
    rfl
  unfold Pc
  rw [et]
  constructor
  · rintro ((h | ⟨h1, h2, h3, A, bs, h4, h5⟩) | ⟨h1, h2, h3, bs, h4⟩)
    · exact Or.inl h
    · refine Or.inr ⟨h1, h2, h3, A, bs, h4, ?_⟩
      rcases h5 with h | ⟨h, h'⟩
      · exact Or.inl h
      · exact Or.inr ⟨h, List.mem_append.mpr (Or.inl h')⟩
    · refine Or.inr ⟨h1, h2, h3, (K cost).getD i default, bs, by rw [h4, List.append_assoc]; rfl, Or.inr ⟨hc, List.mem_append.mpr (Or.inr (List.mem_singleton.mpr rfl))⟩⟩
  · rintro (h | ⟨h1, h2, h3, A, bs, h4, h5⟩)
    · exact Or.inl (Or.inl h)
    · rcases h5 with h | ⟨h, h'⟩
      · exact Or.inl (Or.inr ⟨h1, h2, h3, A, bs, h4, Or.inl h⟩)
      · rcases List.mem_append.mp h' with h'' | h''
        · exact Or.inl (Or.inr ⟨h1, h2, h3, A, bs, h4, Or.inr ⟨h, h''⟩⟩)
        · rw [List.mem_singleton] at h''
          rw [h''] at h4
          exact Or.inr ⟨h1, h2, h3, bs, by rw [h4, List.append_assoc]; rfl⟩
theorem Pc_new {as : List Ent} {P0 : Tup → Prop} {cost i : Nat} {q : Nat × Nat} (hs : srt (K cost)) (hi : i < (K cost).length) (hc : cst ((K cost).getD i default).1 = cost) (hP0 : ∀ s, P0 s → ¬ NA q r as s) : ∀ s, Pc dec pl K c q r as P0 cost i s → ¬ NA q r (as ++ [(K cost).getD i default]) s := by
  rintro s (h | ⟨-, -, -, A, bs, h4, h5⟩) ⟨g1, g2, bs', g3⟩
  · exact hP0 s h ⟨g1, g2, (K cost).getD i default :: bs', by rw [g3, List.append_assoc]; rfl⟩
  · rw [h4, List.append_assoc] at g3
    have e := (List.cons.inj (List.append_cancel_left g3)).1
    rcases h5 with h | ⟨-, h'⟩
    · rw [e] at h
      have h : cst ((K cost).getD i default).1 < cost := h
      omega
    · rw [e] at h'
      obtain ⟨k, hk, ek⟩ := List.getElem_of_mem h'
      rw [List.length_take] at hk
      rw [List.getElem_take, entD_in hi] at ek
      have := List.pairwise_iff_getElem.mp hs k i (by omega) hi (by omega)
      rw [ek, ltT_irr] at this
      cases this
theorem kc_inner {as : List Ent} {left cost : Nat} {P0 : Tup → Prop} {last : Int32} (hd : 2 < d) (hO : catOk dec) (hrk : ranked dec rk) (hK : Kok K c) (hc4 : c < 4) (hD : dec x = some D) (hj : j < D.2.length) (hnf : (memQ dec (x, j)).1 ≠ 0) (hrv : RV dec pl K c (x, j) r) (ih : KC cs ad b hi dec pl da ea K c z x j r top sl (d - 1) n)
    (hn : as.length + (n + 1) = (memQ dec (x, j)).2.2.2.2.1.length) (has : ∀ u ∈ as, inK K c u) (hft : fitsL dec as ((memQ dec (x, j)).2.2.2.2.1.take as.length)) (hcst : 1 + recC r + sumC as + left = c) (hcl : cost ≤ left) (hP : ∀ s, P0 s → Val dec pl K c s) (hP0 : ∀ s, P0 s → ¬ NA (x, j) r as s) :
    ∀ (m i : Nat) (σ : am_H) (L : List Ent) (w' : List Nat) (v10 : Option Value), i + m = (K cost).length → cen ad σ b hi dec pl da ea K c z → tgt σ b c L → phr σ (b + 14) ((preT (memQ dec (x, j)) (x, j) r ++ 40 :: sepT as).take 25 ++ w') (memQ dec (x, j)).2.2.2.2.2 c → L8 (ImT dec (Pc dec pl K c (x, j) r as P0 cost i)) L →
    ∃ (σ' : am_H) (L' : List Ent) (w'' : List Nat) (v10' : Option Value), FR b c σ σ' ∧ tgt σ' b c L' ∧ phr σ' (b + 14) ((preT (memQ dec (x, j)) (x, j) r ++ 40 :: sepT as).take 25 ++ w'') (memQ dec (x, j)).2.2.2.2.2 c ∧ L8 (ImT dec (Pc dec pl K c (x, j) r as P0 cost (K cost).length)) L' ∧
      ∀ res, am_to cd_t cs d 83 224 [some (.ref (b + 11)), some (.ref (ea x j)), some (.int (ii as.length)), some (.int (ii left)), some (.int (ii ((preT (memQ dec (x, j)) (x, j) r ++ 40 :: sepT as).take 25).length)), some (.int (ii 24 - ii ((preT (memQ dec (x, j)) (x, j) r ++ 40 :: sepT as).take 25).length - ii 2 * ii n - ii 1)), some (.int last), some (.int (ii cost)), some (.ref (b + 16 + 18 * cost)), some (.int (ii (K cost).length)), v10'] [] σ' top sl res → am_to cd_t cs d 83 137 [some (.ref (b + 11)), some (.ref (ea x j)), some (.int (ii as.length)), some (.int (ii left)), some (.int (ii ((preT (memQ dec (x, j)) (x, j) r ++ 40 :: sepT as).take 25).length)), some (.int (ii 24 - ii ((preT (memQ dec (x, j)) (x, j) r ++ 40 :: sepT as).take 25).length - ii 2 * ii n - ii 1)), some (.int last), some (.int (ii cost)), some (.ref (b + 16 + 18 * cost)), some (.int (ii i)), v10] [] σ top sl res := by
  have hx := (hrk x D hD).1
  have em : memQ dec (x, j) = D.2.getD j default := by unfold memQ memsOf; rw [hD]
  have hMok : memOk (memQ dec (x, j)) := by rw [em]; exact (hO x D hD).2.1 _ (getD_mem hj)
  have hp2 := hMok.2.2.2.2.1
  have hcc : cost < c := by omega
  obtain ⟨hs, hl8, hKg⟩ := hK cost hcc
  intro m
  induction m with
  | zero =>
    intro i σ L w' v10 hi hE hT hp hL
    rw [show i = (K cost).length by omega] at hL ⊢
    obtain ⟨P, hS⟩ := hE.2.2.2 cost hcc
    have hS1 := hS.1
    refine ⟨σ, L, w', v10, FR.refl b c σ, hT, hp, hL, fun res hh => ?_⟩
    refine x_n cd_i83_137 rfl rfl ?_
    refine x_n cd_i83_139 rfl rfl ?_
    refine x_getf cd_i83_141 (by assumption) rfl rfl ?_
    show am_to cd_t _ _ 83 144 _ _ _ _ _ _
    exact x_icmp_t cd_i83_144 ((ii_le (by omega) (by omega)).mpr (Nat.le_refl _)) hh
  | succ m ihm =>
    intro i σ L w' v10 hi hE hT hp hL
    have hil : i < (K cost).length := by omega
    have hA := entD_mem hil
    obtain ⟨a1, a2, a3, a4, a5⟩ := hKg _ hA
    obtain ⟨P, hS⟩ := hE.2.2.2 cost hcc
    obtain ⟨h1, h2, ⟨g, h3, h4⟩, h5, h6, h7⟩ := id hS
    have hpA := h7 i hil
    have hPi := h6.1 i (by omega)
    have hpA1 := hpA.at
    have h11 := hE.2.1
    obtain ⟨mp, mf, e1, e2, e3, e4⟩ := hE.mem hx hD hj
    have hW25 : ((preT (memQ dec (x, j)) (x, j) r ++ 40 :: sepT as).take 25).length ≤ 25 := by rw [List.length_take]; omega
    have stp : ∀ s, (Pc dec pl K c (x, j) r as P0 cost i s ∨ (Val dec pl K c s ∧ NA (x, j) r (as ++ [(K cost).getD i default]) s)) ↔ Pc dec pl K c (x, j) r as P0 cost (i + 1) s := Pc_step hil a2
    have go1 : ∀ res, am_to cd_t cs d 83 164 [some (.ref (b + 11)), some (.ref (ea x j)), some (.int (ii as.length)), some (.int (ii left)), some (.int (ii ((preT (memQ dec (x, j)) (x, j) r ++ 40 :: sepT as).take 25).length)), some (.int (ii 24 - ii ((preT (memQ dec (x, j)) (x, j) r ++ 40 :: sepT as).take 25).length - ii 2 * ii n - ii 1)), some (.int last), some (.int (ii cost)), some (.ref (b + 16 + 18 * cost)), some (.int (ii i)), some (.ref (pad (b + 16 + 18 * cost) P i))] [.int (ii 24 - ii ((preT (memQ dec (x, j)) (x, j) r ++ 40 :: sepT as).take 25).length - ii 2 * ii n - ii 1), .int (ii ((K cost).getD i default).1.length)] σ top sl res → am_to cd_t cs d 83 137 [some (.ref (b + 11)), some (.ref (ea x j)), some (.int (ii as.length)), some (.int (ii left)), some (.int (ii ((preT (memQ dec (x, j)) (x, j) r ++ 40 :: sepT as).take 25).length)), some (.int (ii 24 - ii ((preT (memQ dec (x, j)) (x, j) r ++ 40 :: sepT as).take 25).length - ii 2 * ii n - ii 1)), some (.int last), some (.int (ii cost)), some (.ref (b + 16 + 18 * cost)), some (.int (ii i)), v10] [] σ top sl res := by
      intro res hh
      refine x_n cd_i83_137 rfl rfl ?_
      refine x_n cd_i83_139 rfl rfl ?_
      refine x_getf cd_i83_141 (by assumption) rfl rfl ?_
      show am_to cd_t _ _ 83 144 _ _ _ _ _ _
      refine x_icmp_f cd_i83_144 (fun z => by have := (ii_le (by omega) (by omega)).mp (show ii (K cost).length ≤ ii i from z); omega) ?_
      refine x_n cd_i83_147 rfl rfl ?_
      refine x_getf cd_i83_149 (by assumption) rfl rfl ?_
      refine x_n cd_i83_152 rfl rfl ?_
      show am_to cd_t _ _ 83 154 _ _ _ _ _ _
      refine x_aaload cd_i83_154 h3 (by omega) (by decide) ?_
      rw [h4 i (by omega)]
      refine x_n cd_i83_155 rfl rfl ?_
      dsimp only [List.set]
      refine x_n cd_i83_157 rfl rfl ?_
      refine x_getf cd_i83_159 hpA1 rfl rfl ?_
      refine x_n cd_i83_162 rfl rfl ?_
      show am_to cd_t _ _ 83 164 _ _ _ _ _ _
      exact hh
    have nxt : ∀ {σ1 : am_H} {L1 : List Ent} {w1 : List Nat}, FR b c σ σ1 → tgt σ1 b c L1 → phr σ1 (b + 14) ((preT (memQ dec (x, j)) (x, j) r ++ 40 :: sepT as).take 25 ++ w1) (memQ dec (x, j)).2.2.2.2.2 c → L8 (ImT dec (Pc dec pl K c (x, j) r as P0 cost (i + 1))) L1 → (∀ res, am_to cd_t cs d 83 218 [some (.ref (b + 11)), some (.ref (ea x j)), some (.int (ii as.length)), some (.int (ii left)), some (.int (ii ((preT (memQ dec (x, j)) (x, j) r ++ 40 :: sepT as).take 25).length)), some (.int (ii 24 - ii ((preT (memQ dec (x, j)) (x, j) r ++ 40 :: sepT as).take 25).length - ii 2 * ii n - ii 1)), some (.int last), some (.int (ii cost)), some (.ref (b + 16 + 18 * cost)), some (.int (ii i)), some (.ref (pad (b + 16 + 18 * cost) P i))] [] σ1 top sl res → am_to cd_t cs d 83 137 [some (.ref (b + 11)), some (.ref (ea x j)), some (.int (ii as.length)), some (.int (ii left)), some (.int (ii ((preT (memQ dec (x, j)) (x, j) r ++ 40 :: sepT as).take 25).length)), some (.int (ii 24 - ii ((preT (memQ dec (x, j)) (x, j) r ++ 40 :: sepT as).take 25).length - ii 2 * ii n - ii 1)), some (.int last), some (.int (ii cost)), some (.ref (b + 16 + 18 * cost)), some (.int (ii i)), v10] [] σ top sl res) →
        ∃ (σ' : am_H) (L' : List Ent) (w'' : List Nat) (v10' : Option Value), FR b c σ σ' ∧ tgt σ' b c L' ∧ phr σ' (b + 14) ((preT (memQ dec (x, j)) (x, j) r ++ 40 :: sepT as).take 25 ++ w'') (memQ dec (x, j)).2.2.2.2.2 c ∧ L8 (ImT dec (Pc dec pl K c (x, j) r as P0 cost (K cost).length)) L' ∧
          ∀ res, am_to cd_t cs d 83 224 [some (.ref (b + 11)), some (.ref (ea x j)), some (.int (ii as.length)), some (.int (ii left)), some (.int (ii ((preT (memQ dec (x, j)) (x, j) r ++ 40 :: sepT as).take 25).length)), some (.int (ii 24 - ii ((preT (memQ dec (x, j)) (x, j) r ++ 40 :: sepT as).take 25).length - ii 2 * ii n - ii 1)), some (.int last), some (.int (ii cost)), some (.ref (b + 16 + 18 * cost)), some (.int (ii (K cost).length)), v10'] [] σ' top sl res → am_to cd_t cs d 83 137 [some (.ref (b + 11)), some (.ref (ea x j)), some (.int (ii as.length)), some (.int (ii left)), some (.int (ii ((preT (memQ dec (x, j)) (x, j) r ++ 40 :: sepT as).take 25).length)), some (.int (ii 24 - ii ((preT (memQ dec (x, j)) (x, j) r ++ 40 :: sepT as).take 25).length - ii 2 * ii n - ii 1)), some (.int last), some (.int (ii cost)), some (.ref (b + 16 + 18 * cost)), some (.int (ii i)), v10] [] σ top sl res := by
      intro σ1 L1 w1 f1 t1 p1 l1 go
      obtain ⟨s2, L2, w2, v2, c1, c2, c3, c4, c5⟩ := ihm (i + 1) σ1 L1 w1 (some (.ref (pad (b + 16 + 18 * cost) P i))) (by omega) (hE.kept hc4 f1) t1 p1 l1
      refine ⟨s2, L2, w2, v2, f1.trans c1, c2, c3, c4, fun res hh => go res ?_⟩
      refine x_iinc cd_i83_218 rfl (ii_add _ 1) rfl ?_
      refine x_n cd_i83_221 rfl rfl ?_
      show am_to cd_t _ _ 83 137 _ _ _ _ _ _
      exact c5 res hh
    have hra := room_all ((preT (memQ dec (x, j)) (x, j) r ++ 40 :: sepT as).take 25).length (by omega) n (by omega) ((K cost).getD i default).1.length (by omega)
    by_cases hroom : 24 < ((preT (memQ dec (x, j)) (x, j) r ++ 40 :: sepT as).take 25).length + 2 * n + 1 + ((K cost).getD i default).1.length
    · refine nxt (FR.refl b c σ) hT hp (ImT_iff (ImT_prune (N := fun s => Val dec pl K c s ∧ NA (x, j) r (as ++ [(K cost).getD i default]) s) hL (fun s hv => Or.inl ?_)) stp) (fun res hh => go1 res (x_icmp_t cd_i83_164 (hra.mpr hroom) hh))
      obtain ⟨hv, g1, g2, bs, g3⟩ := hv
      rw [List.append_assoc] at g3
      have g3 : s.2.2 = as ++ (K cost).getD i default :: bs := g3
      have l1 := fitsL_len hv.2.2.2.1
      rw [g3, g1, List.length_append, List.length_cons] at l1
      have l2 := argT_len bs (fun u hu => ((hv.2.2.1 u (by rw [g3]; exact List.mem_append.mpr (Or.inr (List.mem_cons_of_mem _ hu)))).good hK).1)
      have l3 : ((preT (memQ dec (x, j)) (x, j) r ++ 40 :: sepT as).take 25).length ≤ (preT (memQ dec (x, j)) (x, j) r ++ 40 :: sepT as).length := by rw [List.length_take]; omega
      rw [List.length_append] at l3
      rw [NA_text1 g1 g2 g3 hnf, List.length_append, List.length_append, List.length_append, List.length_append, List.length_singleton]
      have e : bs.length = n := by omega
      rw [e] at l2
      omega
    · have go2 : ∀ res, am_to cd_t cs d 83 185 [some (.ref (b + 11)), some (.ref (ea x j)), some (.int (ii as.length)), some (.int (ii left)), some (.int (ii ((preT (memQ dec (x, j)) (x, j) r ++ 40 :: sepT as).take 25).length)), some (.int (ii 24 - ii ((preT (memQ dec (x, j)) (x, j) r ++ 40 :: sepT as).take 25).length - ii 2 * ii n - ii 1)), some (.int last), some (.int (ii cost)), some (.ref (b + 16 + 18 * cost)), some (.int (ii i)), some (.ref (pad (b + 16 + 18 * cost) P i))] [.int (b2i (fitB dec ((K cost).getD i default).2 ((memQ dec (x, j)).2.2.2.2.1.getD as.length 0)))] σ top sl res → am_to cd_t cs d 83 137 [some (.ref (b + 11)), some (.ref (ea x j)), some (.int (ii as.length)), some (.int (ii left)), some (.int (ii ((preT (memQ dec (x, j)) (x, j) r ++ 40 :: sepT as).take 25).length)), some (.int (ii 24 - ii ((preT (memQ dec (x, j)) (x, j) r ++ 40 :: sepT as).take 25).length - ii 2 * ii n - ii 1)), some (.int last), some (.int (ii cost)), some (.ref (b + 16 + 18 * cost)), some (.int (ii i)), v10] [] σ top sl res := by
        intro res hh
        have hpt : (memQ dec (x, j)).2.2.2.2.1.getD as.length 0 < 13 := hMok.2.2.2.2.2.1 _ (by
          rw [List.getD_eq_getElem?_getD, List.getElem?_eq_getElem (show as.length < (memQ dec (x, j)).2.2.2.2.1.length by omega)]
          exact List.getElem_mem _)
        have hfit := x_isFitting (cs := cs) (d := d - 1) (top := top) (sl := sl) hE.1.1 hE.1.2.2.2.1 a3 hpt
        refine go1 res (x_icmp_f cd_i83_164 (fun z => hroom (hra.mp z)) ?_)
        refine x_n cd_i83_167 rfl rfl ?_
        refine x_getf cd_i83_168 h11 rfl rfl ?_
        refine x_n cd_i83_171 rfl rfl ?_
        refine x_getf cd_i83_173 hpA1 rfl rfl ?_
        refine x_n cd_i83_176 rfl rfl ?_
        refine x_getf cd_i83_177 e1 rfl rfl ?_
        refine x_n cd_i83_180 rfl rfl ?_
        refine x_iaload cd_i83_181 e2 (by omega) (by decide) ?_
        rw [e4 as.length (by omega)]
        exact x_callv (as' := [.int (ii ((K cost).getD i default).2), .int (ii ((memQ dec (x, j)).2.2.2.2.1.getD as.length 0))]) cd_i83_182 hE.1.1 (by omega) rfl rfl rfl rfl rfl rfl hfit hh
      cases hfit : fitB dec ((K cost).getD i default).2 ((memQ dec (x, j)).2.2.2.2.1.getD as.length 0) with
      | false =>
        rw [hfit] at go2
        refine nxt (FR.refl b c σ) hT hp (ImT_iff hL (fun s => ⟨fun h => (stp s).mp (Or.inl h), fun h => ?_⟩)) (fun res hh => go2 res (x_if_t cd_i83_185 rfl hh))
        rcases (stp s).mpr h with h | ⟨hv, g1, g2, bs, g3⟩
        · exact h
        · rw [List.append_assoc] at g3
          have hf := hv.2.2.2.1
          rw [g3, g1] at hf
          have := fitsL_at (as := as) (A := (K cost).getD i default) (bs := bs) hf
          rw [hfit] at this
          cases this
      | true =>
        rw [hfit] at go2
        obtain ⟨s1, hs1⟩ : ∃ t, t = am_up σ (b + 14) (.inr (.inl (8, [.ref (b + 14 + 1), .int (ii ((preT (memQ dec (x, j)) (x, j) r ++ 40 :: sepT as).take 25).length), .int (ii (memQ dec (x, j)).2.2.2.2.2), .int (ii c)]))) := ⟨_, rfl⟩
        have p1 : phr s1 (b + 14) ((preT (memQ dec (x, j)) (x, j) r ++ 40 :: sepT as).take 25) (memQ dec (x, j)).2.2.2.2.2 c := hs1 ▸ hp.cut
        have f1 : ∀ y, y ≠ b + 14 → y ≠ b + 14 + 1 → s1 y = σ y := fun y y1 _ => by rw [hs1, am_up_ne _ _ y1]
        have hpA' : phr s1 (pad (b + 16 + 18 * cost) P i) ((K cost).getD i default).1 ((K cost).getD i default).2 cost := hpA.kept (f1 _ (by unfold pad; omega) (by unfold pad; omega)) (f1 _ (by unfold pad; omega) (by unfold pad; omega))
        obtain ⟨s2, q1, q2, q3⟩ := x_phApp (cs := cs) (d := d - 1) (top := top) (sl := sl) (by omega) p1 hpA' (by unfold pad; omega) (by unfold pad; omega) (by unfold pad; omega)
        rw [take_app25] at q2
        have f2 : ∀ y, y ≠ b + 14 → y ≠ b + 14 + 1 → s2 y = σ y := fun y y1 y2 => (q3 y y1 y2).trans (f1 y y1 y2)
        have eW : (preT (memQ dec (x, j)) (x, j) r ++ 40 :: sepT as) ++ ((K cost).getD i default).1 = preT (memQ dec (x, j)) (x, j) r ++ 40 :: argT (as ++ [(K cost).getD i default]) := by
          rw [argT_app, List.append_assoc]
          rfl
        rw [eW] at q2
        have E2 := hE.kept hc4 (FR.draft f2)
        have la : (as ++ [(K cost).getD i default]).length = as.length + 1 := List.length_append
        obtain ⟨s3, L3, w3, r1, r2, r3, r4, r5⟩ := ih (as ++ [(K cost).getD i default]) (left - cost) s2 L (Pc dec pl K c (x, j) r as P0 cost i) (by omega) (fun u hu => by
            rcases List.mem_append.mp hu with h | h
            · exact has u h
            · rw [List.mem_singleton.mp h]
              exact ⟨by omega, by rw [a2]; exact hA⟩) (by rw [la]; exact fitsL_snoc (by omega) hft hfit) (by
            rw [sumC_app, sumC_cons, a2]
            show 1 + recC r + (sumC as + (cost + 0)) + (left - cost) = c
            omega) E2 (hT.draft f2) q2 (fun s hs => by
            rcases hs with h | h
            · exact hP s h
            · exact h.1) (Pc_new hs hil a2 hP0) hL
        obtain ⟨w4, hw4⟩ : ∃ w4, (preT (memQ dec (x, j)) (x, j) r ++ 40 :: argT (as ++ [(K cost).getD i default])).take 25 = (preT (memQ dec (x, j)) (x, j) r ++ 40 :: sepT as).take 25 ++ w4 := ⟨_, by rw [← eW, List.take_append]⟩
        rw [hw4, List.append_assoc] at r4
        have g1 := E2.2.1
        have hp1 := hp.at
        have hp2' := p1.at
        rw [la] at r1
        refine nxt ((FR.draft f2).trans r2) r3 r4 (ImT_iff r5 stp) (fun res hh => go2 res ?_)
        refine x_if_f cd_i83_185 (fun z => absurd (show (1 : Int32) = 0 from z) (by decide)) ?_
        refine x_n cd_i83_188 rfl rfl ?_
        refine x_getf cd_i83_189 h11 rfl rfl ?_
        refine x_n cd_i83_192 rfl rfl ?_
        refine x_putf cd_i83_194 (fs' := [.ref (b + 14 + 1), .int (ii ((preT (memQ dec (x, j)) (x, j) r ++ 40 :: sepT as).take 25).length), .int (ii (memQ dec (x, j)).2.2.2.2.2), .int (ii c)]) hp1 rfl rfl rfl ?_
        refine hs1 ▸ ?_
        have g11 : s1 (b + 11) = _ := (f1 _ (by omega) (by omega)).trans h11
        refine x_n cd_i83_197 rfl rfl ?_
        refine x_getf cd_i83_198 g11 rfl rfl ?_
        refine x_n cd_i83_201 rfl rfl ?_
        refine x_callv (as' := [.ref (pad (b + 16 + 18 * cost) P i)]) (r := none) cd_i83_203 hp2' (by omega) rfl rfl rfl rfl rfl rfl q1 ?_
        refine x_n cd_i83_206 rfl rfl ?_
        refine x_n cd_i83_207 rfl rfl ?_
        refine x_n cd_i83_208 rfl rfl ?_
        show am_to cd_t _ _ 83 209 _ _ _ _ _ _
        refine x_ic cd_i83_209 (z := ii 1) rfl ?_
        refine x_iadd cd_i83_210 (ii_add _ _) ?_
        refine x_n cd_i83_211 rfl rfl ?_
        refine x_n cd_i83_212 rfl rfl ?_
        show am_to cd_t _ _ 83 214 _ _ _ _ _ _
        refine x_isub cd_i83_214 (ii_sub hcl) ?_
        exact x_callv (as' := [.ref (ea x j), .int (ii (as.length + 1)), .int (ii (left - cost))]) (r := none) cd_i83_215 g1 (by omega) rfl rfl rfl rfl rfl rfl r1 hh
end KCT
