def PjC (dec : Nat → Option Dec) (pl : Int32) (K : Nat → List Ent) (c x : Nat) (P0 : Tup → Prop) (j : Nat) (s : Tup) : Prop := P0 s ∨ (Val dec pl K c s ∧ s.1.1 = x ∧ s.1.2 < j ∧ s.2.1 = none)
theorem Val.rv {dec : Nat → Option Dec} {pl : Int32} {K : Nat → List Ent} {c : Nat} {s : Tup} (h : Val dec pl K c s) : RV dec pl K c s.1 s.2.1 := by
  have h2 := h.2.1
  unfold RV
  cases hr : s.2.1 with
  | none =>
    rw [hr] at h2
    exact h2
  | some e =>
    rw [hr] at h2
    exact h2
section KOC
variable {cs : Nat → Value} {ad : Nat → Nat} {b hi : Nat} {dec : Nat → Option Dec} {pl : Int32} {da : Nat → Nat} {ea : Nat → Nat → Nat} {K : Nat → List Ent} {c : Nat} {z : Int32} {x : Nat} {top sl d : Nat} {rk : Nat → Nat} {D : Dec}
theorem PjC_step {P0 : Tup → Prop} {j : Nat} (s : Tup) : (PjC dec pl K c x P0 j s ∨ (Val dec pl K c s ∧ s.1 = (x, j) ∧ s.2.1 = none)) ↔ PjC dec pl K c x P0 (j + 1) s := by
  unfold PjC
  constructor
  · rintro ((h | ⟨h1, h2, h3, h4⟩) | ⟨h1, h2, h3⟩)
    · exact Or.inl h
    · exact Or.inr ⟨h1, h2, by omega, h4⟩
    · exact Or.inr ⟨h1, by rw [h2], by rw [h2]; exact Nat.lt_succ_self _, h3⟩
  · rintro (h | ⟨h1, h2, h3, h4⟩)
    · exact Or.inl (Or.inl h)
    · by_cases e : s.1.2 = j
      · exact Or.inr ⟨h1, Prod.ext h2 e, h4⟩
      · exact Or.inl (Or.inr ⟨h1, h2, by omega, h4⟩)
/-- the draft begins with what goes before the name's place, and the name -/
theorem x_ofc_text {σ : am_H} {w : List Nat} {ty j : Nat} {M : Mem} {left : Nat} {v3 : Value} {e : Nat} {mk : Bool} (hd : 4 < d) (hcs : csOk cs ad) (hS : csS cs σ b) (hE : cen ad σ b hi dec pl da ea K c z) (hc4 : c < 4) (hx : x < 10) (hM : memOk M) (hmk : mk = decide (M.1 = 2)) (hob : ∀ σ' : am_H, FR b c σ σ' → ∃ v0 v1 v2 v4 v5 v6 : Value, σ' e = some (.inr (.inl (7, [v0, v1, v2, .int (ii (n256 M.2.2.2.1)), v4, v5, v6])))) (hp : phr σ (b + 14) w ty c) :
    ∃ σ' : am_H, (∀ y, y ≠ b + 14 → y ≠ b + 14 + 1 → σ' y = σ y) ∧ phr σ' (b + 14) ((preT M (x, j) none).take 25) ty c ∧ ∀ res, am_to cd_t cs d 79 141 [some (.ref (b + 11)), some (.int (ii x)), some (.int (ii left)), some v3, some (.int (ii j)), some (.ref e), some (.int (b2i mk))] [] σ' top sl res → am_to cd_t cs d 79 79 [some (.ref (b + 11)), some (.int (ii x)), some (.int (ii left)), some v3, some (.int (ii j)), some (.ref e), some (.int (b2i mk))] [] σ top sl res := by
  have h11 := hE.2.1
  have hp1 := hp.at
  obtain ⟨s1, hs1⟩ : ∃ t, t = am_up σ (b + 14) (.inr (.inl (8, [.ref (b + 14 + 1), .int (ii 0), .int (ii ty), .int (ii c)]))) := ⟨_, rfl⟩
  have p1 : phr s1 (b + 14) [] ty c := by
    rw [hs1]
    exact phr.cut (w := []) (r := w) hp
  have f1 : ∀ y, y ≠ b + 14 → y ≠ b + 14 + 1 → s1 y = σ y := fun y y1 _ => by rw [hs1, am_up_ne _ _ y1]
  have g1 := (hE.kept hc4 (FR.draft f1)).2.1
  have p11 := p1.at
  have go : ∀ res, am_to cd_t cs d 79 89 [some (.ref (b + 11)), some (.int (ii x)), some (.int (ii left)), some v3, some (.int (ii j)), some (.ref e), some (.int (b2i mk))] [.int (b2i mk)] s1 top sl res → am_to cd_t cs d 79 79 [some (.ref (b + 11)), some (.int (ii x)), some (.int (ii left)), some v3, some (.int (ii j)), some (.ref e), some (.int (b2i mk))] [] σ top sl res := by
    intro res hh
    refine x_n cd_i79_79 rfl rfl ?_
    refine x_getf cd_i79_80 h11 rfl rfl ?_
    refine x_ic cd_i79_83 (z := ii 0) rfl ?_
    refine x_putf cd_i79_84 (fs' := [.ref (b + 14 + 1), .int (ii 0), .int (ii ty), .int (ii c)]) hp1 rfl rfl rfl ?_
    refine hs1 ▸ ?_
    refine x_n cd_i79_87 rfl rfl ?_
    show am_to cd_t _ _ 79 89 _ _ _ _ _ _
    exact hh
  by_cases h2 : M.1 = 2
  · rw [decide_eq_true h2] at hmk
    rw [hmk] at go ⊢
    obtain ⟨k, -, -, -, k3, hk⟩ := id hS
    obtain ⟨s2, a1, a2, a3⟩ := x_phText (cs := cs) (d := d - 1) (top := top) (sl := sl) (a := k 3) (u := wNewS) (by omega) hcs p1 (fun σ' hσ => (hk σ' (fun q hq => (hσ q (by omega) (by omega)).trans (f1 q (by omega) (by omega)))).2.2.2) (by decide)
    obtain ⟨s3, b1, b2, b3⟩ := x_phClass (cs := cs) (d := d - 1) (top := top) (sl := sl) (by omega) a2 hx
    rw [take_app25, List.nil_append] at b2
    have f2 : ∀ y, y ≠ b + 14 → y ≠ b + 14 + 1 → s2 y = σ y := fun y y1 y2 => (a3 y y1 y2).trans (f1 y y1 y2)
    have g2 := (hE.kept hc4 (FR.draft f2)).2.1
    have p2 := a2.at
    refine ⟨s3, fun y y1 y2 => (b3 y y1 y2).trans (f2 y y1 y2), ?_, fun res hh => go res ?_⟩
    · unfold preT
      rw [if_pos h2]
      exact b2
    · refine x_if_f cd_i79_89 (fun z => absurd (show (1 : Int32) = 0 from z) (by decide)) ?_
      refine x_n cd_i79_92 rfl rfl ?_
      refine x_getf cd_i79_93 g1 rfl rfl ?_
      refine x_n cd_i79_96 rfl rfl ?_
      rw [k3]
      refine x_callv (as' := [.ref (k 3)]) (r := none) cd_i79_98 p11 (by omega) rfl rfl rfl rfl rfl rfl a1 ?_
      refine x_n cd_i79_101 rfl rfl ?_
      refine x_getf cd_i79_102 g2 rfl rfl ?_
      refine x_n cd_i79_105 rfl rfl ?_
      refine x_callv (as' := [.int (ii x)]) (r := none) cd_i79_106 p2 (by omega) rfl rfl rfl rfl rfl rfl b1 ?_
      refine x_n cd_i79_109 rfl rfl ?_
      show am_to cd_t _ _ 79 141 _ _ _ _ _ _
      exact hh
  · rw [decide_eq_false h2] at hmk
    rw [hmk] at go ⊢
    obtain ⟨s2, a1, a2, a3⟩ := x_phClass (cs := cs) (d := d - 1) (top := top) (sl := sl) (by omega) p1 hx
    rw [List.nil_append] at a2
    obtain ⟨s3, b1, b2, b3⟩ := x_phAdd (cs := cs) (d := d - 1) (top := top) (sl := sl) (c := 46) a2 (by decide)
    rw [take_app25] at b2
    obtain ⟨s4, c1, c2, c3⟩ := x_phName (cs := cs) (d := d - 1) (top := top) (sl := sl) (v := M.2.2.2.1) (by omega) b2 hM.2.1.1 hM.2.1.2
    rw [take_app25] at c2
    have f2 : ∀ y, y ≠ b + 14 → y ≠ b + 14 + 1 → s2 y = σ y := fun y y1 y2 => (a3 y y1 y2).trans (f1 y y1 y2)
    have f3 : ∀ y, y ≠ b + 14 → y ≠ b + 14 + 1 → s3 y = σ y := fun y y1 y2 => (b3 y y1 y2).trans (f2 y y1 y2)
    have g2 := (hE.kept hc4 (FR.draft f2)).2.1
    have g3 := (hE.kept hc4 (FR.draft f3)).2.1
    have p2 := a2.at
    have p3 := b2.at
    obtain ⟨v0, v1, v2, v4, v5, v6, ho⟩ := hob s3 (FR.draft f3)
    refine ⟨s4, fun y y1 y2 => (c3 y y1 y2).trans (f3 y y1 y2), ?_, fun res hh => go res ?_⟩
    · unfold preT
      rw [if_neg h2]
      have e : frontT (x, j) none ++ 46 :: M.2.2.2.1 = [65 + x] ++ [46] ++ M.2.2.2.1 := rfl
      rw [e]
      exact c2
    · refine x_if_t cd_i79_89 rfl ?_
      refine x_n cd_i79_112 rfl rfl ?_
      refine x_getf cd_i79_113 g1 rfl rfl ?_
      refine x_n cd_i79_116 rfl rfl ?_
      refine x_callv (as' := [.int (ii x)]) (r := none) cd_i79_117 p11 (by omega) rfl rfl rfl rfl rfl rfl a1 ?_
      refine x_n cd_i79_120 rfl rfl ?_
      refine x_getf cd_i79_121 g2 rfl rfl ?_
      refine x_bi cd_i79_124 (z := ii 46) (by decide) ?_
      refine x_callv (as' := [.int (ii 46)]) (r := none) cd_i79_126 p2 (by omega) rfl rfl rfl rfl rfl rfl b1 ?_
      refine x_n cd_i79_129 rfl rfl ?_
      refine x_getf cd_i79_130 g3 rfl rfl ?_
      refine x_n cd_i79_133 rfl rfl ?_
      refine x_getf cd_i79_135 ho rfl rfl ?_
      exact x_callv (as' := [.int (ii (n256 M.2.2.2.1))]) (r := none) cd_i79_138 p3 (by omega) rfl rfl rfl rfl rfl rfl c1 hh
theorem x_ofc_loop {left : Nat} {P0 : Tup → Prop} (hd : 6 < d) (hcs : csOk cs ad) (hO : catOk dec) (hrk : ranked dec rk) (hK : Kok K c) (hc4 : c < 4) (hD : dec x = some D) (hcst : 1 + left = c) (hP : ∀ s, P0 s → Val dec pl K c s) (hP0 : ∀ s, P0 s → ¬ (s.1.1 = x ∧ s.2.1 = none)) :
    ∀ (m j : Nat) (σ : am_H) (L : List Ent) (w : List Nat) (ty : Nat) (v5 v6 : Option Value), j + m = D.2.length → csS cs σ b → cen ad σ b hi dec pl da ea K c z → tgt σ b c L → phr σ (b + 14) w ty c → L8 (ImT dec (PjC dec pl K c x P0 j)) L →
    ∃ (σ' : am_H) (L' : List Ent) (w' : List Nat) (ty' : Nat), am_to cd_t cs d 79 17 [some (.ref (b + 11)), some (.int (ii x)), some (.int (ii left)), some (.ref (da x)), some (.int (ii j)), v5, v6] [] σ top sl (.inl none, σ', top, sl) ∧ FR b c σ σ' ∧ tgt σ' b c L' ∧ phr σ' (b + 14) w' ty' c ∧ L8 (ImT dec (PjC dec pl K c x P0 D.2.length)) L' := by
  have hx := (hrk x D hD).1
  intro m
  induction m with
  | zero =>
    intro j σ L w ty v5 v6 hm hS hE hT hp hL
    obtain ⟨q1, q2, qr, qg, q3, q4, q5, q6, q7, q8⟩ := hE.1.2.2.1 x D hx hD
    rw [show j = D.2.length by omega] at hL ⊢
    refine ⟨σ, L, w, ty, ?_, FR.refl b c σ, hT, hp, hL⟩
    refine x_n cd_i79_17 rfl rfl ?_
    refine x_n cd_i79_19 rfl rfl ?_
    refine x_getf cd_i79_20 (by assumption) rfl rfl ?_
    show am_to cd_t _ _ 79 23 _ _ _ _ _ _
    refine x_icmp_t cd_i79_23 ((ii_le (by omega) (by omega)).mpr (Nat.le_refl _)) ?_
    exact x_end cd_i79_154 rfl rfl rfl
  | succ m ihm =>
    intro j σ L w ty v5 v6 hm hS hE hT hp hL
    have hDA := hE.1.2.2.1 x D hx hD
    obtain ⟨q1, q2, qr, qg, q3, q4, q5, q6, q7, q8⟩ := id hDA
    have hj : j < D.2.length := by omega
    have em : memQ dec (x, j) = D.2.getD j default := by unfold memQ memsOf; rw [hD]
    have hMok : memOk (memQ dec (x, j)) := by rw [em]; exact (hO x D hD).2.1 _ (getD_mem hj)
    obtain ⟨mp, mf, e1, e2, e3, e4⟩ := hE.mem hx hD hj
    have h11 := hE.2.1
    have us := x_usable (cs := cs) (d := d - 1) (top := top) (sl := sl) hE.1 hDA (q8 j hj).2
    rw [← em] at us
    have go : ∀ res, am_to cd_t cs d 79 53 [some (.ref (b + 11)), some (.int (ii x)), some (.int (ii left)), some (.ref (da x)), some (.int (ii j)), some (.ref (ea x j)), some (.int (b2i (decide ((memQ dec (x, j)).1 = 2))))] [] σ top sl res → am_to cd_t cs d 79 17 [some (.ref (b + 11)), some (.int (ii x)), some (.int (ii left)), some (.ref (da x)), some (.int (ii j)), v5, v6] [] σ top sl res := by
      intro res hh
      refine x_n cd_i79_17 rfl rfl ?_
      refine x_n cd_i79_19 rfl rfl ?_
      refine x_getf cd_i79_20 (by assumption) rfl rfl ?_
      show am_to cd_t _ _ 79 23 _ _ _ _ _ _
      refine x_icmp_f cd_i79_23 (fun z => by have := (ii_le (by omega) (by omega)).mp (show ii D.2.length ≤ ii j from z); omega) ?_
      refine x_n cd_i79_26 rfl rfl ?_
      refine x_getf cd_i79_27 (by assumption) rfl rfl ?_
      refine x_n cd_i79_30 rfl rfl ?_
      show am_to cd_t _ _ 79 32 _ _ _ _ _ _
      refine x_aaload cd_i79_32 q6 (show j < 6 by omega) (by decide) ?_
      rw [(q8 j hj).1]
      refine x_n cd_i79_33 rfl rfl ?_
      dsimp only [List.set]
      refine x_n cd_i79_35 rfl rfl ?_
      refine x_getf cd_i79_37 e1 rfl rfl ?_
      refine x_n cd_i79_40 rfl rfl ?_
      rw [hcs.2.2.1]
      refine x_acne cd_i79_43 (fun y => ?_) (fun y => ?_)
      · rw [decide_eq_true (hcs.2.2.2.2.2 _ _ hMok.1 (by decide) y)] at hh
        refine x_ic cd_i79_46 (z := ii 1) rfl ?_
        refine x_n cd_i79_47 rfl rfl ?_
        refine x_n cd_i79_51 rfl rfl ?_
        try dsimp only [List.set]
        show am_to cd_t _ _ 79 53 _ _ _ _ _ _
        exact hh
      · rw [decide_eq_false (fun y2 => y (by rw [y2]))] at hh
        refine x_ic cd_i79_50 (z := ii 0) rfl ?_
        refine x_n cd_i79_51 rfl rfl ?_
        try dsimp only [List.set]
        show am_to cd_t _ _ 79 53 _ _ _ _ _ _
        exact hh
    have nxt : ∀ {σ1 : am_H} {L1 : List Ent} {w1 : List Nat} {t1 : Nat} {v6' : Option Value}, FR b c σ σ1 → tgt σ1 b c L1 → phr σ1 (b + 14) w1 t1 c → L8 (ImT dec (PjC dec pl K c x P0 (j + 1))) L1 → (∀ res, am_to cd_t cs d 79 148 [some (.ref (b + 11)), some (.int (ii x)), some (.int (ii left)), some (.ref (da x)), some (.int (ii j)), some (.ref (ea x j)), v6'] [] σ1 top sl res → am_to cd_t cs d 79 17 [some (.ref (b + 11)), some (.int (ii x)), some (.int (ii left)), some (.ref (da x)), some (.int (ii j)), v5, v6] [] σ top sl res) →
        ∃ (σ' : am_H) (L' : List Ent) (w' : List Nat) (ty' : Nat), am_to cd_t cs d 79 17 [some (.ref (b + 11)), some (.int (ii x)), some (.int (ii left)), some (.ref (da x)), some (.int (ii j)), v5, v6] [] σ top sl (.inl none, σ', top, sl) ∧ FR b c σ σ' ∧ tgt σ' b c L' ∧ phr σ' (b + 14) w' ty' c ∧ L8 (ImT dec (PjC dec pl K c x P0 D.2.length)) L' := by
      intro σ1 L1 w1 t1 v6' f1 T1 p1 l1 gg
      obtain ⟨s2, L2, w2, ty2, c1, c2, c3, c4, c5⟩ := ihm (j + 1) σ1 L1 w1 t1 (some (.ref (ea x j))) v6' (by omega) (hS.kept (fun q hq => f1 q (by omega) (by omega) (by omega))) (hE.kept hc4 f1) T1 p1 l1
      refine ⟨s2, L2, w2, ty2, gg _ ?_, f1.trans c2, c3, c4, c5⟩
      refine x_iinc cd_i79_148 rfl (ii_add _ 1) rfl ?_
      refine x_n cd_i79_151 rfl rfl ?_
      show am_to cd_t _ _ 79 17 _ _ _ _ _ _
      exact c1
    have skip : (∀ res, am_to cd_t cs d 79 148 [some (.ref (b + 11)), some (.int (ii x)), some (.int (ii left)), some (.ref (da x)), some (.int (ii j)), some (.ref (ea x j)), some (.int (b2i (decide ((memQ dec (x, j)).1 = 2))))] [] σ top sl res → am_to cd_t cs d 79 17 [some (.ref (b + 11)), some (.int (ii x)), some (.int (ii left)), some (.ref (da x)), some (.int (ii j)), v5, v6] [] σ top sl res) → ¬ RV dec pl K c (x, j) none →
        ∃ (σ' : am_H) (L' : List Ent) (w' : List Nat) (ty' : Nat), am_to cd_t cs d 79 17 [some (.ref (b + 11)), some (.int (ii x)), some (.int (ii left)), some (.ref (da x)), some (.int (ii j)), v5, v6] [] σ top sl (.inl none, σ', top, sl) ∧ FR b c σ σ' ∧ tgt σ' b c L' ∧ phr σ' (b + 14) w' ty' c ∧ L8 (ImT dec (PjC dec pl K c x P0 D.2.length)) L' := by
      intro gg hn
      refine nxt (FR.refl b c σ) hT hp (ImT_iff hL (fun s => ⟨fun h => (PjC_step s).mp (Or.inl h), fun h => ?_⟩)) gg
      rcases (PjC_step s).mpr h with h | ⟨h1, h2, h3⟩
      · exact h
      · have := h1.rv
        rw [h2, h3] at this
        exact absurd this hn
    have go2 : ((memQ dec (x, j)).2.2.1 = true ∨ (memQ dec (x, j)).1 = 2) → ∀ res, am_to cd_t cs d 79 76 [some (.ref (b + 11)), some (.int (ii x)), some (.int (ii left)), some (.ref (da x)), some (.int (ii j)), some (.ref (ea x j)), some (.int (b2i (decide ((memQ dec (x, j)).1 = 2))))] [.int (b2i (usB pl x (memQ dec (x, j))))] σ top sl res → am_to cd_t cs d 79 17 [some (.ref (b + 11)), some (.int (ii x)), some (.int (ii left)), some (.ref (da x)), some (.int (ii j)), v5, v6] [] σ top sl res := by
      intro hor res hh
      have at66 : am_to cd_t cs d 79 66 [some (.ref (b + 11)), some (.int (ii x)), some (.int (ii left)), some (.ref (da x)), some (.int (ii j)), some (.ref (ea x j)), some (.int (b2i (decide ((memQ dec (x, j)).1 = 2))))] [] σ top sl res := by
        refine x_n cd_i79_66 rfl rfl ?_
        refine x_getf cd_i79_67 h11 rfl rfl ?_
        refine x_n cd_i79_70 rfl rfl ?_
        refine x_n cd_i79_71 rfl rfl ?_
        show am_to cd_t _ _ 79 73 _ _ _ _ _ _
        exact x_callv (as' := [.ref (da x), .ref (ea x j)]) cd_i79_73 hE.1.1 (by omega) rfl rfl rfl rfl rfl rfl us hh
      refine go res ?_
      refine x_n cd_i79_53 rfl rfl ?_
      by_cases h2 : (memQ dec (x, j)).1 = 2
      · refine x_if_t cd_i79_55 (fun z => ?_) at66
        rw [decide_eq_true h2] at z
        exact absurd (show (1 : Int32) = 0 from z) (by decide)
      · refine x_if_f cd_i79_55 (fun z => z (by rw [decide_eq_false h2]; rfl)) ?_
        refine x_n cd_i79_58 rfl rfl ?_
        refine x_getf cd_i79_60 e1 rfl rfl ?_
        refine x_if_f cd_i79_63 (fun z => ?_) at66
        rcases hor with h | h
        · rw [h] at z
          exact absurd (show (1 : Int32) = 0 from z) (by decide)
        · exact h2 h
    by_cases hor : (memQ dec (x, j)).2.2.1 = true ∨ (memQ dec (x, j)).1 = 2
    · cases hu : usB pl x (memQ dec (x, j)) with
      | false =>
        rw [hu] at go2
        exact skip (fun res hh => go2 hor res (x_if_t cd_i79_76 rfl hh)) (fun h => by
          have h2 : usB pl x (memQ dec (x, j)) = true := h.2
          rw [hu] at h2
          cases h2)
      | true =>
        rw [hu] at go2
        obtain ⟨s1, f1, p1, g1⟩ := x_ofc_text (cs := cs) (d := d) (top := top) (sl := sl) (j := j) (left := left) (v3 := .ref (da x)) (e := ea x j) (by omega) hcs hS hE hc4 hx hMok rfl (fun σ' hf => by
          obtain ⟨mp', mf', k1, -⟩ := (hE.kept hc4 hf).mem hx hD hj
          exact ⟨_, _, _, _, _, _, k1⟩) hp
        have E1 := hE.kept hc4 (FR.draft f1)
        obtain ⟨s2, L2, w2, c1, c2, c3, c4, c5⟩ := x_uses (cs := cs) (d := d - 1) (top := top) (sl := sl) (left := left) (P0 := PjC dec pl K c x P0 j) (r := none) (by omega) hcs hO hrk hK hc4 hD hj ⟨hor, hu⟩ (by show 1 + 0 + left = c; omega) E1 (hT.draft f1) p1 (fun s hs => by
            rcases hs with h | h
            · exact hP s h
            · exact h.1) (fun s hs he => by
            rcases hs with h | ⟨-, -, h, -⟩
            · exact hP0 s h ⟨by rw [he.1], he.2⟩
            · rw [he.1] at h
              exact absurd h (Nat.lt_irrefl _)) hL
        have g11 := E1.2.1
        refine nxt (v6' := some (.int (b2i (decide ((memQ dec (x, j)).1 = 2))))) ((FR.draft f1).trans c2) c3 c4 (ImT_iff c5 PjC_step) (fun res hh => go2 hor res ?_)
        refine x_if_f cd_i79_76 (fun z => absurd (show (1 : Int32) = 0 from z) (by decide)) ?_
        refine g1 res ?_
        refine x_n cd_i79_141 rfl rfl ?_
        refine x_n cd_i79_142 rfl rfl ?_
        refine x_n cd_i79_144 rfl rfl ?_
        show am_to cd_t _ _ 79 145 _ _ _ _ _ _
        exact x_callv (as' := [.ref (ea x j), .int (ii left)]) (r := none) cd_i79_145 g11 (by omega) rfl rfl rfl rfl rfl rfl c1 hh
    · refine skip (fun res hh => go res ?_) (fun h => hor h.1)
      refine x_n cd_i79_53 rfl rfl ?_
      refine x_if_f cd_i79_55 (fun z => z (by rw [decide_eq_false (fun h => hor (Or.inr h))]; rfl)) ?_
      refine x_n cd_i79_58 rfl rfl ?_
      refine x_getf cd_i79_60 e1 rfl rfl ?_
      refine x_if_t cd_i79_63 ?_ hh
      have : (memQ dec (x, j)).2.2.1 = false := Bool.eq_false_iff.mpr (fun h => hor (Or.inl h))
      rw [this]
      exact rfl
theorem x_ofClass {σ : am_H} {L : List Ent} {w : List Nat} {ty left : Nat} {P0 : Tup → Prop} (hd : 6 < d) (hcs : csOk cs ad) (hO : catOk dec) (hrk : ranked dec rk) (hK : Kok K c) (hc4 : c < 4) (hx : x < 10) (hcst : 1 + left = c) (hS : csS cs σ b) (hE : cen ad σ b hi dec pl da ea K c z) (hT : tgt σ b c L) (hp : phr σ (b + 14) w ty c) (hP : ∀ s, P0 s → Val dec pl K c s) (hP0 : ∀ s, P0 s → ¬ (s.1.1 = x ∧ s.2.1 = none)) (hL : L8 (ImT dec P0) L) :
    ∃ (σ' : am_H) (L' : List Ent) (w' : List Nat) (ty' : Nat), am_to cd_t cs d 79 0 (am_ent 7 [.ref (b + 11), .int (ii x), .int (ii left)]) [] σ top sl (.inl none, σ', top, sl) ∧ FR b c σ σ' ∧ tgt σ' b c L' ∧ phr σ' (b + 14) w' ty' c ∧ L8 (ImT dec (fun s => P0 s ∨ (Val dec pl K c s ∧ s.1.1 = x ∧ s.2.1 = none))) L' := by
  have h := x_declO (cs := cs) (d := d - 1) (top := top) (sl := sl) (o := some x) hE.1 (fun q hq => by rw [← Option.some.inj hq]; exact hx)
  have h : am_to cd_t cs (d - 1) 22 0 (am_ent 2 [.ref (b + 3), .int (ii x)]) [] σ top sl (.inl (some (va_rf ((dec x).map fun _ => da x))), σ, top, sl) := h
  have h11 := hE.2.1
  have go : ∀ res, am_to cd_t cs d 79 8 [some (.ref (b + 11)), some (.int (ii x)), some (.int (ii left)), none, none, none, none] [va_rf ((dec x).map fun _ => da x)] σ top sl res → am_to cd_t cs d 79 0 (am_ent 7 [.ref (b + 11), .int (ii x), .int (ii left)]) [] σ top sl res := by
    intro res hh
    refine x_n cd_i79_0 rfl rfl ?_
    refine x_getf cd_i79_1 h11 rfl rfl ?_
    refine x_n cd_i79_4 rfl rfl ?_
    exact x_callv (as' := [.int (ii x)]) cd_i79_5 hE.1.1 (by omega) rfl rfl rfl rfl rfl rfl h hh
  cases hD : dec x with
  | none =>
    rw [hD] at go
    refine ⟨σ, L, w, ty, go _ ?_, FR.refl b c σ, hT, hp, ImT_iff hL (fun s => ⟨Or.inl, ?_⟩)⟩
    · refine x_n cd_i79_8 rfl rfl ?_
      try dsimp only [List.set]
      refine x_n cd_i79_9 rfl rfl ?_
      show am_to cd_t _ _ 79 10 _ _ _ _ _ _
      refine x_nn_f cd_i79_10 ?_
      exact x_end cd_i79_13 rfl rfl rfl
    · rintro (h | ⟨h1, h2, -⟩)
      · exact h
      · obtain ⟨D, hD', -⟩ := h1.1
        rw [h2, hD] at hD'
        cases hD'
  | some D =>
    rw [hD] at go
    obtain ⟨s1, L1, w1, t1, c1, c2, c3, c4, c5⟩ := x_ofc_loop (cs := cs) (top := top) (sl := sl) hd hcs hO hrk hK hc4 hD hcst hP hP0 D.2.length 0 σ L w ty none none (Nat.zero_add _) hS hE hT hp (ImT_iff hL (fun s => ⟨Or.inl, fun h => by
      rcases h with h | ⟨-, -, h, -⟩
      · exact h
      · exact absurd h (Nat.not_lt_zero _)⟩))
    refine ⟨s1, L1, w1, t1, go _ ?_, c2, c3, c4, ImT_iff c5 (fun s => ?_)⟩
    · refine x_n cd_i79_8 rfl rfl ?_
      try dsimp only [List.set]
      refine x_n cd_i79_9 rfl rfl ?_
      show am_to cd_t _ _ 79 10 _ _ _ _ _ _
      refine x_nn_t cd_i79_10 ?_
      refine x_ic cd_i79_14 (z := ii 0) rfl ?_
      refine x_n cd_i79_15 rfl rfl ?_
      try dsimp only [List.set]
      show am_to cd_t _ _ 79 17 _ _ _ _ _ _
      exact c1
    · unfold PjC
      constructor
      · rintro (h | ⟨h1, h2, -, h4⟩)
        · exact Or.inl h
        · exact Or.inr ⟨h1, h2, h4⟩
      · rintro (h | ⟨h1, h2, h4⟩)
        · exact Or.inl h
        · obtain ⟨D', hD', hj'⟩ := h1.1
          rw [h2, hD] at hD'
          have e := Option.some.inj hD'
          rw [← e] at hj'
          exact Or.inr ⟨h1, h2, hj', h4⟩
end KOC
