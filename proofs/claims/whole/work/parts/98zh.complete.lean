def X_shl (σ : am_H) (b : Nat) : Prop := (∃ g : Nat → Option Nat, σ (b + 12) = some (.inl (.object "ChainDesk$Shelf", 4, .inr (.inr (.inr (.inr g))))) ∧ ∀ i, i < 4 → g i = some (b + 16 + 18 * i)) ∧ (∀ k, k < 4 → ∃ L co P, shf σ (b + 16 + 18 * k) L co P) ∧ ∃ w ty co, phr σ (b + 14) w ty co
theorem X_shl.kept {σ σ' : am_H} {b : Nat} (h : X_shl σ b) (hq : ∀ x, b + 12 ≤ x → x < b + 88 → σ' x = σ x) : X_shl σ' b := by
  obtain ⟨⟨g, h1, h2⟩, h3, w, ty, co, h4⟩ := h
  refine ⟨⟨g, (hq _ (by omega) (by omega)).trans h1, h2⟩, fun k hk => ?_, w, ty, co, h4.kept (hq _ (by omega) (by omega)) (hq _ (by omega) (by omega))⟩
  obtain ⟨L, c, P, hP⟩ := h3 k hk
  exact ⟨L, c, P, hP.kept (fun x x1 x2 => hq x (by omega) (by omega))⟩
/-- the proposals, and where they lie -/
def X_pb (σ : am_H) (b : Nat) (pr : List (List Nat × Nat × Nat)) : Prop := (∃ t : Nat, σ (b + 11) = some (.inr (.inl (3, [.ref (b + 3), .ref (b + 6), .ref (b + 12), .ref (b + 13), .ref (b + 14), .ref t, .int (ii pr.length)])))) ∧ pr.length ≤ 10 ∧ ∃ h : Nat → Option Nat, σ (b + 13) = some (.inl (.object "ChainDesk$Phrase", 10, .inr (.inr (.inr (.inr h))))) ∧ ∀ i, i < pr.length → ∃ p, (b + 16 ≤ p ∧ p + 1 < b + 88) ∧ h i = some p ∧ phr σ p (pr.getD i default).1 (pr.getD i default).2.2 (pr.getD i default).2.1
theorem X_pb.pr {σ : am_H} {b : Nat} {pr : List (List Nat × Nat × Nat)} (h : X_pb σ b pr) : X_pr σ b pr := by
  obtain ⟨g2, g3, h', g5, g6⟩ := h
  refine ⟨g2, g3, h', g5, fun i hi => ?_⟩
  obtain ⟨p, -, u1, u2⟩ := g6 i hi
  exact ⟨p, u1, u2⟩
theorem X_pb.kept {σ σ' : am_H} {b : Nat} {pr : List (List Nat × Nat × Nat)} (h : X_pb σ b pr) (hq : ∀ x, b + 11 ≤ x → x < b + 88 → σ' x = σ x) : X_pb σ' b pr := by
  obtain ⟨⟨t, g2⟩, g3, h', g5, g6⟩ := h
  refine ⟨⟨t, (hq _ (by omega) (by omega)).trans g2⟩, g3, h', (hq _ (by omega) (by omega)).trans g5, fun i hi => ?_⟩
  obtain ⟨p, u0, u1, u2⟩ := g6 i hi
  exact ⟨p, u0, u1, u2.kept (hq _ (by omega) (by omega)) (hq _ (by omega) (by omega))⟩
section COM
variable {cs : Nat → Value} {ad : Nat → Nat} {b hi : Nat} {dec : Nat → Option Dec} {pl : Int32} {da : Nat → Nat} {ea : Nat → Nat → Nat} {K : Nat → List Ent} {c : Nat} {z : Int32} {top sl d : Nat} {rk : Nat → Nat} {vs : List (List Nat × Nat)}
theorem pen_next {σ σ' : am_H} {L : List Ent} {w : List Nat} {ty : Nat} (hc4 : c < 4) (hE : cen ad σ' b hi dec pl da ea K c z) (hT : tgt σ' b c L) (hp : phr σ' (b + 14) w ty c) (hsh : ∀ k, k < 4 → ∃ L co P, shf σ (b + 16 + 18 * k) L co P) (hf : FG b c σ σ') : pen ad σ' b hi dec pl da ea (updK K c L) (c + 1) z := by
  obtain ⟨h1, h2, h3, h4⟩ := hE
  refine ⟨h1, ⟨_, h2⟩, h3, fun k hk => ?_, fun k hk => ?_, w, ty, c, hp⟩
  · unfold updK
    by_cases e : k = c
    · rw [if_pos e, e]
      exact hT
    · rw [if_neg e]
      exact h4 k (by omega)
  · by_cases e : k = c
    · obtain ⟨P, hP⟩ := hT
      rw [e]
      exact ⟨L, c, P, hP⟩
    · obtain ⟨L', co, P, hP⟩ := hsh k hk
      exact ⟨L', co, P, hP.kept (fun x x1 x2 => hf x (by omega) (by omega) (by omega) (by omega))⟩
theorem x_comp_costs {n : Nat} {v : Value} {t : Int32} (hd : 8 < d) (hcs : csOk cs ad) (hO : catOk dec) (hrk : ranked dec rk) (hn : n ≤ 3) (hv : ∀ q ∈ vs, (∀ c ∈ q.1, 97 ≤ c ∧ c ≤ 122) ∧ 1 ≤ q.1.length ∧ q.1.length ≤ 4 ∧ q.2 < 13) :
    ∀ (q c : Nat) (σ : am_H) (K : Nat → List Ent), c + q = n + 1 → 0 < c → X_o σ b v → csS cs σ b → pen ad σ b hi dec pl da ea K c z → Kspec dec pl vs K c →
    ∃ (σ' : am_H) (K' : Nat → List Ent), pen ad σ' b hi dec pl da ea K' (n + 1) z ∧ Kspec dec pl vs K' (n + 1) ∧ (∀ x, x < b + 11 ∨ b + 88 ≤ x ∨ x = b + 13 → σ' x = σ x) ∧
      ∀ res, am_to cd_t cs d 68 52 [some (.ref b), some (.int t), some (.int (ii n)), some (.int (ii (n + 1)))] [] σ' top sl res → am_to cd_t cs d 68 33 [some (.ref b), some (.int t), some (.int (ii n)), some (.int (ii c))] [] σ top sl res := by
  intro q
  induction q with
  | zero =>
    intro c σ K hq hc0 hx hS hP hK
    rw [show c = n + 1 by omega] at hP hK ⊢
    refine ⟨σ, K, hP, hK, fun _ _ => rfl, fun res hh => ?_⟩
    refine x_n cd_i68_33 rfl rfl ?_
    refine x_n cd_i68_34 rfl rfl ?_
    show am_to cd_t _ _ 68 35 _ _ _ _ _ _
    exact x_icmp_t cd_i68_35 ((ii_lt (by omega) (by omega)).mpr (Nat.lt_succ_self _)) hh
  | succ q ih =>
    intro c σ K hq hc0 hx hS hP hK
    obtain ⟨-, ⟨t0, h11⟩, -, -, hsh, -⟩ := id hP
    obtain ⟨s1, L1, w1, t1, c1, c2, c3, c4, c5, c6⟩ := x_ofCost (cs := cs) (d := d - 1) (top := top) (sl := sl) (by omega) hc0 hcs hO hrk (Kspec_ok hO hrk hv c hK) (by omega) hS hP
    have fr : ∀ x, x < b + 11 ∨ b + 88 ≤ x ∨ x = b + 13 → s1 x = σ x := fun x hx => c3 x (by omega) (by omega) (by omega) (by omega)
    have K1 : Kspec dec pl vs (updK K c L1) (c + 1) := Kspec_ext hK (by rw [if_neg (by omega)]; exact c6)
    obtain ⟨s2, K2, k1, k2, k3, k4⟩ := ih (c + 1) s1 (updK K c L1) (by omega) (by omega) ((fr _ (by omega)).trans hx) (hS.kept (fun q hq => fr q (by omega))) (pen_next (by omega) c2 c4 c5 hsh c3) K1
    refine ⟨s2, K2, k1, k2, fun x hx => (k3 x hx).trans (fr x hx), fun res hh => ?_⟩
    refine x_n cd_i68_33 rfl rfl ?_
    refine x_n cd_i68_34 rfl rfl ?_
    show am_to cd_t _ _ 68 35 _ _ _ _ _ _
    refine x_icmp_f cd_i68_35 (fun z => by have := (ii_lt (by omega) (by omega)).mp (show ii n < ii c from z); omega) ?_
    refine x_n cd_i68_38 rfl rfl ?_
    refine x_getf cd_i68_39 hx rfl rfl ?_
    refine x_n cd_i68_42 rfl rfl ?_
    refine x_callv (as' := [.int (ii c)]) (r := none) cd_i68_43 h11 (by omega) rfl rfl rfl rfl rfl rfl c1 ?_
    refine x_iinc cd_i68_46 rfl (ii_add _ 1) rfl ?_
    refine x_n cd_i68_49 rfl rfl ?_
    show am_to cd_t _ _ 68 33 _ _ _ _ _ _
    exact k4 res hh
theorem x_complete_ok {σ : am_H} {v : Value} {t n : Nat} {pr : List (List Nat × Nat × Nat)} (hd : 8 < d) (hcs : csOk cs ad) (hO : catOk dec) (hrk : ranked dec rk) (hV : distV vs) (ht : t < 13) (hn : n ≤ 3) (hx : X_o σ b v) (hS : csS cs σ b) (hC : X_cat ad σ b hi dec pl da ea) (hSc : X_sco σ b vs) (hSh : X_shl σ b) (hPr : X_pb σ b pr) :
    ∃ (σ' : am_H) (K : Nat → List Ent), am_to cd_t cs d 68 0 (am_ent 4 [.ref b, .int (ii t), .int (ii n)]) [] σ top sl (.inl (some (.int (ii (prOf dec (catK K (n + 1)) t).length))), σ', top, sl) ∧ Kspec dec pl vs K (n + 1) ∧ X_pb σ' b (prOf dec (catK K (n + 1)) t) ∧ X_shl σ' b ∧ ∀ x, x < b + 11 ∨ b + 88 ≤ x → σ' x = σ x := by
  obtain ⟨⟨t0, h11⟩, -, h, h13, -⟩ := id hPr
  obtain ⟨q1, q2, q3⟩ := id hSh
  have P0 : pen ad σ b hi dec pl da ea (fun _ => []) 0 (ii pr.length) := ⟨hC, ⟨t0, h11⟩, q1, fun k hk => absurd hk (Nat.not_lt_zero k), q2, q3⟩
  have hv := hSc.2.2.1
  obtain ⟨s1, L1, w1, t1, c1, c2, c3, c4, c5, c6⟩ := x_keepVars (cs := cs) (d := d - 1) (top := top) (sl := sl) (by omega) hSc hV P0
  have fr1 : ∀ x, x < b + 11 ∨ b + 88 ≤ x ∨ x = b + 13 → s1 x = σ x := fun x hx => c3 x (by omega) (by omega) (by omega) (by omega)
  have P1 := pen_next (by decide) c2 c4 c5 q2 c3
  have K1 : Kspec dec pl vs (updK (fun _ => []) 0 L1) 1 := Kspec_ext (fun c hc => absurd hc (Nat.not_lt_zero c)) (by rw [if_pos rfl]; exact c6)
  obtain ⟨s2, K2, k1, k2, k3, k4⟩ := x_comp_costs (cs := cs) (d := d) (top := top) (sl := sl) (t := ii t) hd hcs hO hrk hn hv n 1 s1 _ (by omega) (by decide) ((fr1 _ (by omega)).trans hx) (hS.kept (fun q hq => fr1 q (by omega))) P1 K1
  have hKok := Kspec_ok hO hrk hv (n + 1) k2
  obtain ⟨p1, ⟨t2, p2⟩, p3, p4, p5, p6⟩ := id k1
  obtain ⟨s3, hs3⟩ : ∃ s, s = am_up s2 (b + 11) (.inr (.inl (3, [.ref (b + 3), .ref (b + 6), .ref (b + 12), .ref (b + 13), .ref (b + 14), .ref t2, .int (ii 0)]))) := ⟨_, rfl⟩
  have f3 : ∀ x, x ≠ b + 11 → s3 x = s2 x := fun x hx => by rw [hs3, am_up_ne _ _ hx]
  have h13' : s3 (b + 13) = some (.inl (.object "ChainDesk$Phrase", 10, .inr (.inr (.inr (.inr h))))) := (f3 _ (by omega)).trans ((k3 _ (Or.inr (Or.inr rfl))).trans ((fr1 _ (Or.inr (Or.inr rfl))).trans h13))
  have S3 : pps ad s3 b hi dec pl da ea K2 (n + 1) (prOf dec (catK K2 0) t) := by
    refine ⟨p1.kept (f3 _ (by omega)) (f3 _ (by omega)) (f3 _ (by omega)) (fun q q1 q2 => f3 q (by omega)) (Nat.le_refl _), ⟨t2, hs3 ▸ am_up_self _ _ _⟩, Nat.zero_le _, ?_, fun k hk => ?_, h, h13', fun i hi => absurd hi (Nat.not_lt_zero i)⟩
    · obtain ⟨g, g1, g2⟩ := p3
      exact ⟨g, (f3 _ (by omega)).trans g1, g2⟩
    · obtain ⟨P, hP⟩ := p4 k hk
      exact ⟨P, hP.kept (fun x x1 x2 => f3 x (by omega))⟩
  obtain ⟨s4, r1, r2, r3⟩ := x_propose_loop (cs := cs) (d := d - 1) (top := top) (sl := sl) (by omega) hKok (show n < 4 by omega) ht (n + 1) 0 s3 none none (Nat.zero_add _) S3
  have f4 : ∀ x, x ≠ b + 11 → x ≠ b + 13 → s4 x = s2 x := fun x x1 x2 => (r1 x x1 x2).trans (f3 x x1)
  refine ⟨s4, K2, ?_, k2, ?_, ?_, fun x hx => (f4 x (by omega) (by omega)).trans ((k3 x (by omega)).trans (fr1 x (by omega)))⟩
  · have hty := x_isType (cs := cs) (d := d - 1) (σ := σ) (top := top) (sl := sl) (c := ii t)
    rw [ii_toInt (by omega), if_pos (by omega)] at hty
    refine x_n cd_i68_0 rfl rfl ?_
    show am_to cd_t _ _ 68 1 _ _ _ _ _ _
    refine x_calls (as := [.int (ii t)]) cd_i68_1 (by omega) rfl rfl rfl rfl rfl rfl hty ?_
    refine x_if_f cd_i68_4 (fun z => absurd (show (1 : Int32) = 0 from z) (by decide)) ?_
    refine x_n cd_i68_7 rfl rfl ?_
    refine x_if_f cd_i68_8 (ii_neg (by omega)) ?_
    refine x_n cd_i68_11 rfl rfl ?_
    refine x_ic cd_i68_12 (z := ii 3) rfl ?_
    refine x_icmp_t cd_i68_13 ((ii_le (by omega) (by decide)).mpr hn) ?_
    refine x_n cd_i68_24 rfl rfl ?_
    refine x_getf cd_i68_25 hx rfl rfl ?_
    refine x_callv (as' := []) (r := none) cd_i68_28 h11 (by omega) rfl rfl rfl rfl rfl rfl c1 ?_
    refine x_ic cd_i68_31 (z := ii 1) rfl ?_
    refine x_n cd_i68_32 rfl rfl ?_
    try dsimp only [List.set]
    show am_to cd_t _ _ 68 33 _ _ _ _ _ _
    refine k4 _ ?_
    refine x_n cd_i68_52 rfl rfl ?_
    refine x_getf cd_i68_53 ((k3 _ (by omega)).trans ((fr1 _ (by omega)).trans hx)) rfl rfl ?_
    refine x_n cd_i68_56 rfl rfl ?_
    refine x_n cd_i68_57 rfl rfl ?_
    show am_to cd_t _ _ 68 58 _ _ _ _ _ _
    refine x_callv (as' := [.int (ii t), .int (ii n)]) cd_i68_58 p2 (by omega) rfl rfl rfl rfl rfl rfl (r := some (.int (ii (prOf dec (catK K2 (n + 1)) t).length))) (σ1 := s4) (top1 := top) (sl1 := sl) ?_ ?_
    · refine x_n cd_i86_0 rfl rfl ?_
      refine x_ic cd_i86_1 (z := ii 0) rfl ?_
      refine x_putf cd_i86_2 (fs' := [.ref (b + 3), .ref (b + 6), .ref (b + 12), .ref (b + 13), .ref (b + 14), .ref t2, .int (ii 0)]) p2 rfl rfl rfl ?_
      refine hs3 ▸ ?_
      refine x_ic cd_i86_5 (z := ii 0) rfl ?_
      refine x_n cd_i86_6 rfl rfl ?_
      try dsimp only [List.set]
      show am_to cd_t _ _ 86 7 _ _ _ _ _ _
      exact r3
    · exact x_end cd_i68_61 rfl rfl rfl
  · obtain ⟨-, g2, g3, -, -, h', g5, g6⟩ := r2
    exact ⟨g2, g3, h', g5, g6⟩
  · obtain ⟨g, g1, g2⟩ := p3
    refine ⟨⟨g, (f4 _ (by omega) (by omega)).trans g1, g2⟩, fun k hk => ?_, ?_⟩
    · obtain ⟨L, co, P, hP⟩ := p5 k hk
      exact ⟨L, co, P, hP.kept (fun x x1 x2 => f4 x (by omega) (by omega))⟩
    · obtain ⟨w, ty, co, hp⟩ := p6
      exact ⟨w, ty, co, hp.kept (f4 _ (by omega) (by omega)) (f4 _ (by omega) (by omega))⟩
theorem x_complete_no {σ : am_H} {t w : Int32} (hd : 5 < d) (hno : ¬ ((0 ≤ t.toInt ∧ t.toInt < 13) ∧ 0 ≤ w.toInt ∧ w.toInt ≤ 3)) :
    am_to cd_t cs d 68 0 (am_ent 4 [.ref b, .int t, .int w]) [] σ top sl (.inr top, am_up σ top (.inr (.inl (12, []))), top + 1, sl + 6) := by
  have thr : am_to cd_t cs d 68 16 (am_ent 4 [.ref b, .int t, .int w]) [] σ top sl (.inr top, am_up σ top (.inr (.inl (12, []))), top + 1, sl + 6) := am_to_throw (t := cd_t) cd_i68_16 rfl (by omega) (by decide)
  refine x_n cd_i68_0 rfl rfl ?_
  show am_to cd_t _ _ 68 1 _ _ _ _ _ _
  refine x_calls (as := [.int t]) cd_i68_1 (by omega) rfl rfl rfl rfl rfl rfl (x_isType (c := t)) ?_
  by_cases ht : 0 ≤ t.toInt ∧ t.toInt < 13
  · rw [if_pos ht]
    refine x_if_f cd_i68_4 (fun z => absurd (show (1 : Int32) = 0 from z) (by decide)) ?_
    refine x_n cd_i68_7 rfl rfl ?_
    refine x_if cd_i68_8 (fun _ => thr) (fun y => ?_)
    have y1 := mt neg_iff.mpr y
    refine x_n cd_i68_11 rfl rfl ?_
    refine x_ic cd_i68_12 (z := ii 3) rfl ?_
    refine x_icmp_f cd_i68_13 (fun z => ?_) thr
    have := (le_c (n := w) (k := 3) (by decide)).mp z
    omega
  · rw [if_neg ht]
    exact x_if_t cd_i68_4 rfl thr
theorem l_complete {σ : am_H} {v : Value} {t w : Int32} {pr : List (List Nat × Nat × Nat)} {o : Nat} {f : Nat → Int64} (hd : 9 < d) (hbo : b + 88 ≤ o) (hot : o < top) (hcs : csOk cs ad) (hO : catOk dec) (hrk : ranked dec rk) (hV : distV vs) (hx : X_o σ b v) (hS : csS cs σ b) (hC : X_cat ad σ b hi dec pl da ea) (hSc : X_sco σ b vs) (hSh : X_shl σ b) (hPr : X_pb σ b pr) (hOo : σ o = some (.inl (.long, 1, .inr (.inl f)))) :
    ∃ (σ' : am_H) (k : Int32) (g : Nat → Int64) (pr' : List (List Nat × Nat × Nat)) (top' sl' : Nat), am_to cd_t cs d 160 0 (am_ent 5 [.ref b, .int t, .int w, .ref o]) [] σ top sl (.inl (some (.int k)), σ', top', sl') ∧ top ≤ top' ∧ top' ≤ top + 1 ∧ sl' ≤ sl + 6 ∧ X_pb σ' b pr' ∧ X_shl σ' b ∧ σ' o = some (.inl (.long, 1, .inr (.inl g))) ∧ (∀ x, x < top → (x < b + 11 ∨ b + 88 ≤ x) → x ≠ o → σ' x = σ x) ∧
      ((¬ ((0 ≤ t.toInt ∧ t.toInt < 13) ∧ 0 ≤ w.toInt ∧ w.toInt ≤ 3) ∧ k = 1 ∧ pr' = pr) ∨ (((0 ≤ t.toInt ∧ t.toInt < 13) ∧ 0 ≤ w.toInt ∧ w.toInt ≤ 3) ∧ k = 0 ∧ ∃ K, Kspec dec pl vs K (w.toNatClampNeg + 1) ∧ pr' = prOf dec (catK K (w.toNatClampNeg + 1)) t.toNatClampNeg ∧ g 0 = (ii pr'.length).toInt64)) := by
  by_cases hok : (0 ≤ t.toInt ∧ t.toInt < 13) ∧ 0 ≤ w.toInt ∧ w.toInt ≤ 3
  · have et := Int32_nn (n := t) hok.1.1
    have ew := Int32_nn (n := w) hok.2.1
    have lt : t.toNatClampNeg < 13 := by
      show t.toInt.toNat < 13
      omega
    have lw : w.toNatClampNeg ≤ 3 := by
      show w.toInt.toNat ≤ 3
      omega
    obtain ⟨s1, K, c1, c2, c3, c4, c5⟩ := x_complete_ok (cs := cs) (d := d - 1) (top := top) (sl := sl) (by omega) hcs hO hrk hV lt lw hx hS hC hSc hSh hPr
    rw [← et, ← ew] at c1
    have o1 : s1 o = some (.inl (.long, 1, .inr (.inl f))) := (c5 o (by omega)).trans hOo
    have fr : ∀ x, x ≠ o → am_up s1 o (.inl (.long, 1, .inr (.inl (vp_updL f 0 (ii (prOf dec (catK K (w.toNatClampNeg + 1)) t.toNatClampNeg).length).toInt64)))) x = s1 x := fun x hx => am_up_ne _ _ hx
    refine ⟨am_up s1 o (.inl (.long, 1, .inr (.inl (vp_updL f 0 (ii (prOf dec (catK K (w.toNatClampNeg + 1)) t.toNatClampNeg).length).toInt64)))), 0, _, _, top, sl, ?_, Nat.le_refl _, by omega, by omega, ?_, c4.kept (fun x x1 x2 => fr x (by omega)), am_up_self _ _ _, fun x x1 x2 x3 => (fr x x3).trans (c5 x x2), Or.inr ⟨hok, rfl, K, c2, rfl, rfl⟩⟩
    · refine x_n cd_i160_0 rfl rfl ?_
      refine x_ic cd_i160_1 (z := ii 0) rfl ?_
      refine x_n cd_i160_2 rfl rfl ?_
      refine x_n cd_i160_3 rfl rfl ?_
      refine x_n cd_i160_4 rfl rfl ?_
      show am_to cd_t _ _ 160 5 _ _ _ _ _ _
      refine x_callv (as' := [.int t, .int w]) cd_i160_5 hx (by omega) rfl rfl rfl rfl rfl rfl c1 ?_
      refine x_n cd_i160_8 rfl rfl ?_
      show am_to cd_t _ _ 160 9 _ _ _ _ _ _
      refine x_lastore cd_i160_9 (i := 0) o1 (by decide) (by decide) ?_
      refine x_n cd_i160_10 rfl rfl ?_
      refine x_ic cd_i160_17 (z := ii 0) rfl ?_
      show am_to cd_t _ _ 160 18 _ _ _ _ _ _
      exact x_end cd_i160_18 rfl rfl rfl
    · exact c3.kept (fun x x1 x2 => fr x (by omega))
  · refine ⟨am_up σ top (.inr (.inl (12, []))), 1, f, pr, top + 1, sl + 6, ?_, by omega, by omega, by omega, hPr.kept (fun x x1 x2 => am_up_ne _ _ (by omega)), hSh.kept (fun x x1 x2 => am_up_ne _ _ (by omega)), (am_up_ne _ _ (by omega)).trans hOo, fun x x1 x2 x3 => am_up_ne _ _ (by omega), Or.inl ⟨hok, rfl, rfl⟩⟩
    refine x_n cd_i160_0 rfl rfl ?_
    refine x_ic cd_i160_1 (z := ii 0) rfl ?_
    refine x_n cd_i160_2 rfl rfl ?_
    refine x_n cd_i160_3 rfl rfl ?_
    refine x_n cd_i160_4 rfl rfl ?_
    show am_to cd_t _ _ 160 5 _ _ _ _ _ _
    refine x_catch (as' := [.int t, .int w]) (h := 13) cd_i160_5 hx (by omega) rfl rfl rfl rfl rfl rfl (x_complete_no (b := b) (by omega) hok) (by unfold am_hd; rw [am_up_self]; rfl) ?_
    refine x_n cd_i160_13 rfl rfl ?_
    try dsimp only [List.set]
    refine x_ic cd_i160_15 (z := ii 1) rfl ?_
    show am_to cd_t _ _ 160 16 _ _ _ _ _ _
    exact x_end cd_i160_16 rfl rfl rfl
end COM
