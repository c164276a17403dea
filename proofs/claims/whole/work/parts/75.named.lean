/-- the constant texts of the readers -/
def csS (cs : Nat → Value) (σ : am_H) (b : Nat) : Prop := ∃ k : Nat → Nat, cs 10 = .ref (k 0) ∧ cs 11 = .ref (k 1) ∧ cs 12 = .ref (k 2) ∧ cs 13 = .ref (k 3) ∧ ∀ σ' : am_H, (∀ q, q < b → σ' q = σ q) → strK σ' (k 0) wPrivate ∧ strK σ' (k 1) wNewP ∧ strK σ' (k 2) wStatic ∧ strK σ' (k 3) wNewS
theorem csS.kept {cs : Nat → Value} {σ σ' : am_H} {b : Nat} (h : csS cs σ b) (hq : ∀ q, q < b → σ' q = σ q) : csS cs σ' b := by
  obtain ⟨k, h1, h2, h3, h4, h5⟩ := h
  exact ⟨k, h1, h2, h3, h4, fun s hs => h5 s (fun q hb => (hs q hb).trans (hq q hb))⟩
section RN
variable {cs : Nat → Value} {d b top sl : Nat} {σ : am_H} {ad : Nat → Nat} {txt : List Nat} {p : Nat}
theorem x_maker {c : Nat} {pr : Bool} (hd : 3 < d) (hcs : csOk cs ad) (hR : σ (b + 9) = some (.inr (.inl (5, [.ref (b + 1), .ref (b + 3)])))) (hB : X_buf σ b txt p) (hT : ∀ c ∈ txt, cok c) (hp : p ≤ txt.length) (hb : b + 114 ≤ top) :
    ∃ (σ' : am_H) (p' : Nat) (r : Option Nat), am_to cd_t cs d 47 0 (am_ent 4 [.ref (b + 9), .int (b2i pr), .int (ii c)]) [] σ top sl (.inl (some (va_rf r)), σ', top + 2, sl + 9) ∧ X_buf σ' b txt p' ∧ p' ≤ txt.length ∧ (∀ x, x ≠ b + 1 → x < top → σ' x = σ x) ∧ ((r = none ∧ pMak txt p pr c = none) ∨ ∃ R, pMak txt p pr c = some R ∧ r = some top ∧ R.2 = p' ∧ memAt ad σ' top (top + 2) top R.1) := by
  obtain ⟨s0, hs0⟩ : ∃ z, z = am_up σ top (.inr (.inl (7, [.null, .int 0, .int 0, .int 0, .null, .int 0, .int 0]))) := ⟨_, rfl⟩
  have h0 : s0 top = some (.inr (.inl (7, [.null, .int 0, .int 0, .int 0, .null, .int 0, .int 0]))) := by rw [hs0]; exact am_up_self _ _ _
  have f0 : ∀ x, x < top → s0 x = σ x := fun x hx => by rw [hs0, am_up_ne _ _ (by omega)]
  obtain ⟨s1, a1, a2, a3⟩ := x_memInit (cs := cs) (d := d - 1) (top := top + 1) (sl := sl + 7) (e := top) (kd := ad 2) (n := ii 0) (pr := pr) (s := false) (by omega) (by omega) h0
  obtain ⟨a4, f, a5, a6⟩ := a2
  obtain ⟨s2, hs2⟩ : ∃ z, z = am_up s1 top (.inr (.inl (7, [.ref (ad 2), .int (b2i pr), .int (b2i false), .int (ii 0), .ref (top + 1), .int (ii 0), .int (ii (3 + c))]))) := ⟨_, rfl⟩
  have m2 : memR s2 top (top + 1) (ad 2) pr false (ii 0) [] (ii (3 + c)) := by
    refine ⟨by rw [hs2]; exact am_up_self _ _ _, f, by rw [hs2, am_up_ne _ _ (by omega)]; exact a5, a6⟩
  have f2 : ∀ x, x < top → s2 x = σ x := fun x hx => by rw [hs2, am_up_ne _ _ (by omega), a3 x (by omega) (by omega)]; exact f0 x hx
  have B2 : X_buf s2 b txt p := hB.kept (f2 _ (by omega)) (f2 _ (by omega))
  have r2 := (f2 (b + 9) (by omega)).trans hR
  obtain ⟨s3, p', ts, c1, c2, c3, c4, c5, c6⟩ := x_params (cs := cs) (d := d - 1) (top := top + 1 + 1) (sl := sl + 7 + 2) (by omega) r2 B2 hT hp m2 (by omega) (by omega) (by omega)
  have go : ∀ res, am_to cd_t cs d 47 26 [some (.ref (b + 9)), some (.int (b2i pr)), some (.int (ii c)), some (.ref top)] [.int (b2i (pPar txt p).isSome)] s3 (top + 2) (sl + 9) res → am_to cd_t cs d 47 0 (am_ent 4 [.ref (b + 9), .int (b2i pr), .int (ii c)]) [] σ top sl res := by
    intro res hh
    refine x_new cd_i47_0 rfl ?_
    refine hs0 ▸ ?_
    refine x_n cd_i47_3 rfl rfl ?_
    show am_to cd_t _ _ 47 4 _ _ _ _ _ _
    refine x_n cd_i47_4 rfl rfl ?_
    rw [hcs.2.2.1]
    refine x_n cd_i47_7 rfl rfl ?_
    refine x_ic cd_i47_8 (z := ii 0) rfl ?_
    refine x_ic cd_i47_9 (z := ii 0) rfl ?_
    show am_to cd_t _ _ 47 10 _ _ _ _ _ _
    refine x_calli (as' := [.ref (ad 2), .int (b2i pr), .int (ii 0), .int (ii 0)]) (r := none) cd_i47_10 (by omega) rfl rfl rfl rfl rfl rfl a1 ?_
    refine x_n cd_i47_13 rfl rfl ?_
    try dsimp only [List.set]
    refine x_n cd_i47_14 rfl rfl ?_
    refine x_ic cd_i47_15 (z := ii 3) rfl ?_
    refine x_n cd_i47_16 rfl rfl ?_
    show am_to cd_t _ _ 47 17 _ _ _ _ _ _
    refine x_iadd cd_i47_17 (ii_add _ _) ?_
    refine x_putf cd_i47_18 (fs' := [.ref (ad 2), .int (b2i pr), .int (b2i false), .int (ii 0), .ref (top + 1), .int (ii 0), .int (ii (3 + c))]) a4 rfl rfl rfl ?_
    refine hs2 ▸ ?_
    refine x_n cd_i47_21 rfl rfl ?_
    refine x_n cd_i47_22 rfl rfl ?_
    show am_to cd_t _ _ 47 23 _ _ _ _ _ _
    refine x_callv (as' := [.ref top]) cd_i47_23 r2 (by omega) rfl rfl rfl rfl rfl rfl c1 ?_
    exact hh
  have fr : ∀ x, x ≠ b + 1 → x < top → s3 x = σ x := fun x h1 h2 => (c6 x h1 (by omega) (by omega)).trans (f2 x h2)
  cases hP : pPar txt p with
  | none =>
    rw [hP] at go
    refine ⟨s3, p', none, go _ ?_, c2, c3, fr, Or.inl ⟨rfl, by unfold pMak; rw [hP]; rfl⟩⟩
    refine x_if_t cd_i47_26 rfl ?_
    refine x_n cd_i47_33 rfl rfl ?_
    show am_to cd_t _ _ 47 34 _ _ _ _ _ _
    exact x_end cd_i47_34 rfl rfl rfl
  | some R =>
    rw [hP] at go
    refine ⟨s3, p', some top, go _ ?_, c2, c3, fr, Or.inr ⟨((2, pr, false, [], R.1, 3 + c), R.2), by unfold pMak; rw [hP]; rfl, rfl, by rw [c5 R hP], ?_⟩⟩
    · refine x_if_f cd_i47_26 (fun z => absurd (show (1 : Int32) = 0 from z) (by decide)) ?_
      refine x_n cd_i47_29 rfl rfl ?_
      refine x_n cd_i47_30 rfl rfl ?_
      show am_to cd_t _ _ 47 34 _ _ _ _ _ _
      exact x_end cd_i47_34 rfl rfl rfl
    · have e := c5 R hP
      rw [e]
      exact memR.at (M := (2, pr, false, [], ts, 3 + c)) c4 (Nat.le_refl _) (by omega) (by omega) (by omega)
theorem x_named_tail {e q kd r : Nat} {n : Int32} {pr s : Bool} {ts : List Nat} {v1 v2 v3 v4 v5 : Option Value} (hd : 2 < d) (hR : σ (b + 9) = some (.inr (.inl (5, [.ref (b + 1), .ref (b + 3)])))) (hB : X_buf σ b txt r) (hT : ∀ c ∈ txt, cok c) (hp : r ≤ txt.length) (h : memR σ e q kd pr s n ts 0) (he : b + 88 ≤ e) (hq : b + 88 ≤ q) (hne : e ≠ q) :
    ∃ (σ' : am_H) (p' : Nat) (rr : Option Nat), am_to cd_t cs d 53 79 [some (.ref (b + 9)), v1, v2, v3, v4, v5, some (.ref e)] [] σ top sl (.inl (some (va_rf rr)), σ', top, sl) ∧ X_buf σ' b txt p' ∧ p' ≤ txt.length ∧ (∀ x, x ≠ b + 1 → x ≠ e → σ' x = σ x) ∧ ((rr = none ∧ pTyp txt r = none) ∨ ∃ T, pTyp txt r = some T ∧ rr = some e ∧ T.2 = p' ∧ memR σ' e q kd pr s n ts (ii T.1)) := by
  obtain ⟨s1, a1, a2, a3⟩ := x_take (cs := cs) (d := d - 1) (top := top) (sl := sl) (c := 58) (by omega) hB hT hp (by decide) (by decide)
  have m1 : memR s1 e q kd pr s n ts 0 := h.kept (a3 _ (by omega)) (a3 _ (by omega))
  have r1 := (a3 (b + 9) (by omega)).trans hR
  unfold pTyp
  by_cases hc : txt.getD r 0 = 58
  · have hlt := getD_lt hc (by decide)
    rw [if_pos hc] at a1 a2
    rw [if_pos hc]
    obtain ⟨s2, b1, b2, b3⟩ := x_takeType (cs := cs) (d := d - 1) (top := top) (sl := sl) (by omega) hT a2 (by omega)
    have m2 : memR s2 e q kd pr s n ts 0 := m1.kept (b3 _ (by omega)) (b3 _ (by omega))
    have hl := tkT_len (txt := txt) (p := r + 1) (by omega)
    obtain ⟨g1, f, g2, g3⟩ := m2
    obtain ⟨s3, hs3⟩ : ∃ z, z = am_up s2 e (.inr (.inl (7, [.ref kd, .int (b2i pr), .int (b2i s), .int n, .ref q, .int (ii ts.length), .int (oi (tkT txt (r + 1)).1)]))) := ⟨_, rfl⟩
    have h3 : s3 e = some (.inr (.inl (7, [.ref kd, .int (b2i pr), .int (b2i s), .int n, .ref q, .int (ii ts.length), .int (oi (tkT txt (r + 1)).1)]))) := by rw [hs3]; exact am_up_self _ _ _
    have h3q : s3 q = s2 q := by rw [hs3, am_up_ne _ _ (fun z => hne z.symm)]
    have f3 : ∀ x, x ≠ b + 1 → x ≠ e → s3 x = σ x := fun x k1 k2 => by rw [hs3, am_up_ne _ _ k2, b3 x k1, a3 x k1]
    have B3 : X_buf s3 b txt (tkT txt (r + 1)).2 := b2.kept (by rw [hs3, am_up_ne _ _ (by omega)]) (by rw [hs3, am_up_ne _ _ (by omega)])
    have go : ∀ res, am_to cd_t cs d 53 111 [some (.ref (b + 9)), v1, v2, v3, v4, v5, some (.ref e)] [.int (-1), .int (oi (tkT txt (r + 1)).1)] s3 top sl res → am_to cd_t cs d 53 79 [some (.ref (b + 9)), v1, v2, v3, v4, v5, some (.ref e)] [] σ top sl res := by
      intro res hh
      refine x_n cd_i53_79 rfl rfl ?_
      refine x_getf cd_i53_80 (by assumption) rfl rfl ?_
      refine x_bi cd_i53_83 (z := ii 58) (by decide) ?_
      show am_to cd_t _ _ 53 85 _ _ _ _ _ _
      refine x_callv (as' := [.int (ii 58)]) cd_i53_85 hB.1 (by omega) rfl rfl rfl rfl rfl rfl a1 ?_
      refine x_if_t cd_i53_88 (fun z => absurd (show (1 : Int32) = 0 from z) (by decide)) ?_
      refine x_n cd_i53_93 rfl rfl ?_
      refine x_n cd_i53_95 rfl rfl ?_
      refine x_getf cd_i53_96 (by assumption) rfl rfl ?_
      show am_to cd_t _ _ 53 99 _ _ _ _ _ _
      refine x_callv (as' := []) cd_i53_99 a2.1 (by omega) rfl rfl rfl rfl rfl rfl b1 ?_
      refine x_putf cd_i53_102 (fs' := [.ref kd, .int (b2i pr), .int (b2i s), .int n, .ref q, .int (ii ts.length), .int (oi (tkT txt (r + 1)).1)]) g1 rfl rfl rfl ?_
      refine hs3 ▸ ?_
      refine x_n cd_i53_105 rfl rfl ?_
      refine x_getf cd_i53_107 (by assumption) rfl rfl ?_
      refine x_ic cd_i53_110 (z := (-1)) rfl ?_
      show am_to cd_t _ _ 53 111 _ _ _ _ _ _
      exact hh
    cases ht : (tkT txt (r + 1)).1 with
    | none =>
      rw [ht] at go
      refine ⟨s3, _, none, go _ ?_, B3, hl, f3, Or.inl ⟨rfl, rfl⟩⟩
      refine x_icmp_f cd_i53_111 (fun z => z rfl) ?_
      refine x_n cd_i53_114 rfl rfl ?_
      refine x_n cd_i53_115 rfl rfl ?_
      show am_to cd_t _ _ 53 120 _ _ _ _ _ _
      exact x_end cd_i53_120 rfl rfl rfl
    | some t =>
      rw [ht] at go h3
      have ht13 := tkT_lt ht
      refine ⟨s3, _, some e, go _ ?_, B3, hl, f3, Or.inr ⟨_, rfl, rfl, rfl, h3, f, h3q.trans g2, g3⟩⟩
      refine x_icmp_t cd_i53_111 (ii_ne1 (by omega)) ?_
      refine x_n cd_i53_118 rfl rfl ?_
      show am_to cd_t _ _ 53 120 _ _ _ _ _ _
      exact x_end cd_i53_120 rfl rfl rfl
  · rw [if_neg hc] at a1 a2
    rw [if_neg hc]
    refine ⟨s1, r, none, ?_, a2, hp, fun x k1 _ => a3 x k1, Or.inl ⟨rfl, rfl⟩⟩
    refine x_n cd_i53_79 rfl rfl ?_
    refine x_getf cd_i53_80 (by assumption) rfl rfl ?_
    refine x_bi cd_i53_83 (z := ii 58) (by decide) ?_
    show am_to cd_t _ _ 53 85 _ _ _ _ _ _
    refine x_callv (as' := [.int (ii 58)]) cd_i53_85 hB.1 (by omega) rfl rfl rfl rfl rfl rfl a1 ?_
    refine x_if_f cd_i53_88 (fun z => z rfl) ?_
    refine x_n cd_i53_91 rfl rfl ?_
    show am_to cd_t _ _ 53 92 _ _ _ _ _ _
    exact x_end cd_i53_92 rfl rfl rfl
theorem x_named {pr : Bool} (hd : 4 < d) (hcs : csOk cs ad) (hS : csS cs σ b) (hR : σ (b + 9) = some (.inr (.inl (5, [.ref (b + 1), .ref (b + 3)])))) (hB : X_buf σ b txt p) (hT : ∀ c ∈ txt, cok c) (hp : p ≤ txt.length) (hb : b + 114 ≤ top) :
    ∃ (σ' : am_H) (p' : Nat) (r : Option Nat) (top' sl' : Nat), am_to cd_t cs d 53 0 (am_ent 7 [.ref (b + 9), .int (b2i pr)]) [] σ top sl (.inl (some (va_rf r)), σ', top', sl') ∧ X_buf σ' b txt p' ∧ p' ≤ txt.length ∧ top ≤ top' ∧ top' ≤ top + 2 ∧ sl' ≤ sl + 9 ∧ (∀ x, x ≠ b + 1 → x < top → σ' x = σ x) ∧ ((r = none ∧ pNam txt p pr = none) ∨ ∃ R, pNam txt p pr = some R ∧ r = some top ∧ R.2 = p' ∧ memAt ad σ' top top' top R.1) := by
  obtain ⟨kk, -, -, hk2, -, hkk⟩ := id hS
  obtain ⟨s1, a1, a2, a3⟩ := x_takeText (cs := cs) (d := d - 1) (top := top) (sl := sl) (by omega) hcs (hkk σ (fun _ _ => rfl)).2.2.1 hB hT hp
  have hpl : (if pre txt p wStatic = true then p + 7 else p) ≤ txt.length := by
    split
    · next hh => exact pre_len wStatic p hp (by decide) hh
    · exact hp
  obtain ⟨p2, hp2⟩ : ∃ z, z = (if pre txt p wStatic = true then p + 7 else p) := ⟨_, rfl⟩
  replace a2 : X_buf s1 b txt p2 := by rw [hp2]; exact a2
  rw [← hp2] at hpl
  have eN : pNam txt p pr = pNam2 txt p2 pr (pre txt p wStatic) := by unfold pNam; rw [← hp2]
  rw [eN]
  generalize pre txt p wStatic = st at *
  have r1 := (a3 (b + 9) (by omega)).trans hR
  obtain ⟨s2, b1, b2, b3⟩ := x_takeName (cs := cs) (d := d - 1) (top := top) (sl := sl) (by omega) hT a2 hpl
  have r2 := (b3 (b + 9) (by omega)).trans r1
  have hwl := wl_len txt p2 hpl
  unfold pNam2
  have go1 : ∀ (z : Int32), am_to cd_t cs (d - 1) 54 0 (am_ent 2 [.ref (b + 1)]) [] s1 top sl (.inl (some (.int z)), s2, top, sl) → ∀ res, am_to cd_t cs d 53 19 [some (.ref (b + 9)), some (.int (b2i pr)), some (.int (b2i st)), some (.int z), none, none, none] [.int z] s2 top sl res → am_to cd_t cs d 53 0 (am_ent 7 [.ref (b + 9), .int (b2i pr)]) [] σ top sl res := by
    intro z hz res hh
    refine x_n cd_i53_0 rfl rfl ?_
    refine x_getf cd_i53_1 (by assumption) rfl rfl ?_
    show am_to cd_t _ _ 53 4 _ _ _ _ _ _
    refine x_n cd_i53_4 rfl rfl ?_
    rw [hk2]
    refine x_callv (as' := [.ref (kk 2)]) cd_i53_6 hB.1 (by omega) rfl rfl rfl rfl rfl rfl a1 ?_
    refine x_n cd_i53_9 rfl rfl ?_
    try dsimp only [List.set]
    refine x_n cd_i53_10 rfl rfl ?_
    refine x_getf cd_i53_11 (by assumption) rfl rfl ?_
    show am_to cd_t _ _ 53 14 _ _ _ _ _ _
    refine x_callv (as' := []) cd_i53_14 a2.1 (by omega) rfl rfl rfl rfl rfl rfl hz ?_
    refine x_n cd_i53_17 rfl rfl ?_
    try dsimp only [List.set]
    refine x_n cd_i53_18 rfl rfl ?_
    show am_to cd_t _ _ 53 19 _ _ _ _ _ _
    exact hh
  cases hN : tkN txt p2 with
  | none =>
    rw [hN] at b1
    refine ⟨s2, _, none, top, sl, go1 _ b1 _ ?_, b2, hwl, Nat.le_refl _, by omega, by omega, fun x h1 _ => (b3 x h1).trans (a3 x h1), Or.inl ⟨rfl, rfl⟩⟩
    refine x_if_f cd_i53_19 (fun z => z rfl) ?_
    refine x_n cd_i53_22 rfl rfl ?_
    show am_to cd_t _ _ 53 23 _ _ _ _ _ _
    exact x_end cd_i53_23 rfl rfl rfl
  | some w =>
    obtain ⟨w0, w1, w2, w3⟩ := tkN_some hN
    rw [hN] at b1
    have go1 := go1 _ b1
    have hne : ¬ ii (n256 w) = 0 := fun z => n256_pos w1 w2 ((ii_eq (b := 0) (n256_small w1 w3) (by decide)).mp z)
    obtain ⟨s3, c1, c2, c3⟩ := x_take (cs := cs) (d := d - 1) (top := top) (sl := sl) (c := 40) (by omega) b2 hT hwl (by decide) (by decide)
    have f3 : ∀ x, x ≠ b + 1 → s3 x = σ x := fun x h1 => (c3 x h1).trans ((b3 x h1).trans (a3 x h1))
    have r3 := (f3 (b + 9) (by omega)).trans hR
    obtain ⟨s4, hs4⟩ : ∃ z, z = am_up s3 top (.inr (.inl (7, [.null, .int 0, .int 0, .int 0, .null, .int 0, .int 0]))) := ⟨_, rfl⟩
    have h4 : s4 top = some (.inr (.inl (7, [.null, .int 0, .int 0, .int 0, .null, .int 0, .int 0]))) := by rw [hs4]; exact am_up_self _ _ _
    have f4 : ∀ x, x ≠ b + 1 → x < top → s4 x = σ x := fun x h1 h2 => by rw [hs4, am_up_ne _ _ (by omega)]; exact f3 x h1
    dsimp only
    by_cases hc : txt.getD (p2 + (wl txt p2).length) 0 = 40
    · have hlt := getD_lt hc (by decide)
      rw [if_pos hc] at c1 c2
      rw [if_pos hc]
      obtain ⟨s5, d1, d2, d3⟩ := x_memInit (cs := cs) (d := d - 1) (top := top + 1) (sl := sl + 7) (e := top) (kd := ad 1) (n := ii (n256 w)) (pr := pr) (s := st) (by omega) (by omega) h4
      have f5 : ∀ x, x ≠ b + 1 → x < top → s5 x = σ x := fun x h1 h2 => (d3 x (by omega) (by omega)).trans (f4 x h1 h2)
      have B5 : X_buf s5 b txt (p2 + (wl txt p2).length + 1) := c2.kept (by rw [d3 _ (by omega) (by omega), hs4, am_up_ne _ _ (by omega)]) (by rw [d3 _ (by omega) (by omega), hs4, am_up_ne _ _ (by omega)])
      have r5 := (f5 (b + 9) (by omega) (by omega)).trans hR
      obtain ⟨s6, p', ts, e1, e2, e3, e4, e5, e6⟩ := x_params (cs := cs) (d := d - 1) (top := top + 1 + 1) (sl := sl + 7 + 2) (by omega) r5 B5 hT (by omega) d2 (by omega) (by omega) (by omega)
      have f6 : ∀ x, x ≠ b + 1 → x < top → s6 x = σ x := fun x h1 h2 => (e6 x h1 (by omega) (by omega)).trans (f5 x h1 h2)
      have r6 := (f6 (b + 9) (by omega) (by omega)).trans hR
      have go2 : ∀ res, am_to cd_t cs d 53 76 [some (.ref (b + 9)), some (.int (b2i pr)), some (.int (b2i st)), some (.int (ii (n256 w))), some (.int 1), some (.ref (ad 1)), some (.ref top)] [.int (b2i (pPar txt (p2 + (wl txt p2).length + 1)).isSome)] s6 (top + 2) (sl + 9) res → am_to cd_t cs d 53 0 (am_ent 7 [.ref (b + 9), .int (b2i pr)]) [] σ top sl res := by
        intro res hh
        refine go1 res (x_if_t cd_i53_19 hne ?_)
        refine x_n cd_i53_24 rfl rfl ?_
        refine x_getf cd_i53_25 (by assumption) rfl rfl ?_
        refine x_bi cd_i53_28 (z := ii 40) (by decide) ?_
        show am_to cd_t _ _ 53 30 _ _ _ _ _ _
        refine x_callv (as' := [.int (ii 40)]) cd_i53_30 b2.1 (by omega) rfl rfl rfl rfl rfl rfl c1 ?_
        refine x_n cd_i53_33 rfl rfl ?_
        try dsimp only [List.set]
        refine x_n cd_i53_35 rfl rfl ?_
        show am_to cd_t _ _ 53 37 _ _ _ _ _ _
        refine x_if_f cd_i53_37 (fun z => absurd (show (1 : Int32) = 0 from z) (by decide)) ?_
        refine x_n cd_i53_40 rfl rfl ?_
        rw [hcs.2.1]
        refine x_n cd_i53_43 rfl rfl ?_
        refine x_n cd_i53_49 rfl rfl ?_
        try dsimp only [List.set]
        show am_to cd_t _ _ 53 51 _ _ _ _ _ _
        refine x_new cd_i53_51 rfl ?_
        refine hs4 ▸ ?_
        refine x_n cd_i53_54 rfl rfl ?_
        refine x_n cd_i53_55 rfl rfl ?_
        refine x_n cd_i53_57 rfl rfl ?_
        refine x_n cd_i53_58 rfl rfl ?_
        refine x_n cd_i53_59 rfl rfl ?_
        show am_to cd_t _ _ 53 60 _ _ _ _ _ _
        refine x_calli (as' := [.ref (ad 1), .int (b2i pr), .int (b2i st), .int (ii (n256 w))]) (r := none) cd_i53_60 (by omega) rfl rfl rfl rfl rfl rfl d1 ?_
        refine x_n cd_i53_63 rfl rfl ?_
        try dsimp only [List.set]
        refine x_n cd_i53_65 rfl rfl ?_
        show am_to cd_t _ _ 53 67 _ _ _ _ _ _
        refine x_if_f cd_i53_67 (fun z => absurd (show (1 : Int32) = 0 from z) (by decide)) ?_
        refine x_n cd_i53_70 rfl rfl ?_
        refine x_n cd_i53_71 rfl rfl ?_
        show am_to cd_t _ _ 53 73 _ _ _ _ _ _
        refine x_callv (as' := [.ref top]) cd_i53_73 r5 (by omega) rfl rfl rfl rfl rfl rfl e1 ?_
        exact hh
      cases hP : pPar txt (p2 + (wl txt p2).length + 1) with
      | none =>
        rw [hP] at go2
        refine ⟨s6, p', none, top + 2, sl + 9, go2 _ ?_, e2, e3, by omega, by omega, by omega, f6, Or.inl ⟨rfl, rfl⟩⟩
        refine x_if_t cd_i53_76 rfl ?_
        refine x_n cd_i53_91 rfl rfl ?_
        show am_to cd_t _ _ 53 92 _ _ _ _ _ _
        exact x_end cd_i53_92 rfl rfl rfl
      | some R =>
        rw [hP] at go2
        have eR := e5 R hP
        obtain ⟨s7, p7, rr, k1, k2, k3, k4, k5⟩ := x_named_tail (cs := cs) (d := d) (top := top + 2) (sl := sl + 9) (v1 := some (.int (b2i pr))) (v2 := some (.int (b2i st))) (v3 := some (.int (ii (n256 w)))) (v4 := some (.int 1)) (v5 := some (.ref (ad 1))) (by omega) r6 e2 hT e3 e4 (by omega) (by omega) (by omega)
        refine ⟨s7, p7, rr, top + 2, sl + 9, go2 _ ?_, k2, k3, by omega, by omega, by omega, fun x h1 h2 => (k4 x h1 (by omega)).trans (f6 x h1 h2), ?_⟩
        · refine x_if_f cd_i53_76 (fun z => absurd (show (1 : Int32) = 0 from z) (by decide)) ?_
          exact k1
        · dsimp only
          rw [eR]
          rcases k5 with ⟨q1, q2⟩ | ⟨T, q1, q2, q3, q4⟩
          · exact Or.inl ⟨q1, by show Option.map _ (pTyp txt p') = none; rw [q2]; rfl⟩
          · refine Or.inr ⟨_, by show Option.map _ (pTyp txt p') = _; rw [q1]; rfl, q2, q3, ?_⟩
            exact memR.at (M := (1, pr, st, w, ts, T.1)) q4 (Nat.le_refl _) (by omega) (by omega) (by omega)
    · rw [if_neg hc] at c1 c2
      rw [if_neg hc]
      obtain ⟨s5, d1, d2, d3⟩ := x_memInit (cs := cs) (d := d - 1) (top := top + 1) (sl := sl + 7) (e := top) (kd := ad 0) (n := ii (n256 w)) (pr := pr) (s := st) (by omega) (by omega) h4
      have f5 : ∀ x, x ≠ b + 1 → x < top → s5 x = σ x := fun x h1 h2 => (d3 x (by omega) (by omega)).trans (f4 x h1 h2)
      have B5 : X_buf s5 b txt (p2 + (wl txt p2).length) := c2.kept (by rw [d3 _ (by omega) (by omega), hs4, am_up_ne _ _ (by omega)]) (by rw [d3 _ (by omega) (by omega), hs4, am_up_ne _ _ (by omega)])
      have r5 := (f5 (b + 9) (by omega) (by omega)).trans hR
      have go2 : ∀ res, am_to cd_t cs d 53 79 [some (.ref (b + 9)), some (.int (b2i pr)), some (.int (b2i st)), some (.int (ii (n256 w))), some (.int 0), some (.ref (ad 0)), some (.ref top)] [] s5 (top + 2) (sl + 9) res → am_to cd_t cs d 53 0 (am_ent 7 [.ref (b + 9), .int (b2i pr)]) [] σ top sl res := by
        intro res hh
        refine go1 res (x_if_t cd_i53_19 hne ?_)
        refine x_n cd_i53_24 rfl rfl ?_
        refine x_getf cd_i53_25 (by assumption) rfl rfl ?_
        refine x_bi cd_i53_28 (z := ii 40) (by decide) ?_
        show am_to cd_t _ _ 53 30 _ _ _ _ _ _
        refine x_callv (as' := [.int (ii 40)]) cd_i53_30 b2.1 (by omega) rfl rfl rfl rfl rfl rfl c1 ?_
        refine x_n cd_i53_33 rfl rfl ?_
        try dsimp only [List.set]
        refine x_n cd_i53_35 rfl rfl ?_
        show am_to cd_t _ _ 53 37 _ _ _ _ _ _
        refine x_if_t cd_i53_37 rfl ?_
        refine x_n cd_i53_46 rfl rfl ?_
        rw [hcs.1]
        refine x_n cd_i53_49 rfl rfl ?_
        try dsimp only [List.set]
        show am_to cd_t _ _ 53 51 _ _ _ _ _ _
        refine x_new cd_i53_51 rfl ?_
        refine hs4 ▸ ?_
        refine x_n cd_i53_54 rfl rfl ?_
        refine x_n cd_i53_55 rfl rfl ?_
        refine x_n cd_i53_57 rfl rfl ?_
        refine x_n cd_i53_58 rfl rfl ?_
        refine x_n cd_i53_59 rfl rfl ?_
        show am_to cd_t _ _ 53 60 _ _ _ _ _ _
        refine x_calli (as' := [.ref (ad 0), .int (b2i pr), .int (b2i st), .int (ii (n256 w))]) (r := none) cd_i53_60 (by omega) rfl rfl rfl rfl rfl rfl d1 ?_
        refine x_n cd_i53_63 rfl rfl ?_
        try dsimp only [List.set]
        refine x_n cd_i53_65 rfl rfl ?_
        show am_to cd_t _ _ 53 67 _ _ _ _ _ _
        refine x_if_t cd_i53_67 rfl ?_
        exact hh
      obtain ⟨s7, p7, rr, k1, k2, k3, k4, k5⟩ := x_named_tail (cs := cs) (d := d) (top := top + 2) (sl := sl + 9) (v1 := some (.int (b2i pr))) (v2 := some (.int (b2i st))) (v3 := some (.int (ii (n256 w)))) (v4 := some (.int 0)) (v5 := some (.ref (ad 0))) (by omega) r5 B5 hT hwl d2 (by omega) (by omega) (by omega)
      refine ⟨s7, p7, rr, top + 2, sl + 9, go2 _ k1, k2, k3, by omega, by omega, by omega, fun x h1 h2 => (k4 x h1 (by omega)).trans (f5 x h1 h2), ?_⟩
      rcases k5 with ⟨q1, q2⟩ | ⟨T, q1, q2, q3, q4⟩
      · exact Or.inl ⟨q1, by rw [q2]; rfl⟩
      · refine Or.inr ⟨_, by rw [q1]; rfl, q2, q3, ?_⟩
        exact memR.at (M := (0, pr, st, w, [], T.1)) q4 (Nat.le_refl _) (by omega) (by omega) (by omega)
end RN
