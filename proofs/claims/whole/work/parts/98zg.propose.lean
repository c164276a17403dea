section PRP
variable {cs : Nat → Value} {ad : Nat → Nat} {b hi : Nat} {dec : Nat → Option Dec} {pl : Int32} {da : Nat → Nat} {ea : Nat → Nat → Nat} {K : Nat → List Ent} {c : Nat} {z : Int32} {top sl d : Nat} {rk : Nat → Nat} {t : Nat}
theorem prOf_len {Q : List Ent} : (prOf dec Q t).length = min 10 (Q.filter (fun e => fitB dec e.2 t)).length := by
  unfold prOf
  rw [List.length_map, List.length_take]
theorem prOf_snoc {Q : List Ent} {E : Ent} : prOf dec (Q ++ [E]) t = if fitB dec E.2 t = true ∧ (prOf dec Q t).length < 10 then prOf dec Q t ++ [(E.1, cst E.1, E.2)] else prOf dec Q t := by
  rw [prOf_len]
  unfold prOf
  rw [List.filter_append]
  by_cases hf : fitB dec E.2 t = true
  · have e1 : [E].filter (fun e => fitB dec e.2 t) = [E] := by rw [List.filter_cons, if_pos hf]; rfl
    rw [e1]
    by_cases hl : (Q.filter (fun e => fitB dec e.2 t)).length < 10
    · rw [if_pos ⟨hf, by omega⟩, List.take_of_length_le (by rw [List.length_append, List.length_singleton]; omega), List.take_of_length_le (by omega), List.map_append]
      rfl
    · rw [if_neg (fun h => by have := h.2; omega), List.take_append_of_le_length (by omega)]
  · have e1 : [E].filter (fun e => fitB dec e.2 t) = [] := by rw [List.filter_cons, if_neg hf]; rfl
    rw [e1, List.append_nil, if_neg (fun h => hf h.1)]
theorem prOf_full {Q R : List Ent} (h : (prOf dec Q t).length = 10) : prOf dec (Q ++ R) t = prOf dec Q t := by
  rw [prOf_len] at h
  unfold prOf
  rw [List.filter_append, List.take_append_of_le_length (by omega)]
def pps (ad : Nat → Nat) (σ : am_H) (b hi : Nat) (dec : Nat → Option Dec) (pl : Int32) (da : Nat → Nat) (ea : Nat → Nat → Nat) (K : Nat → List Ent) (n : Nat) (pr : List (List Nat × Nat × Nat)) : Prop :=
  X_cat ad σ b hi dec pl da ea ∧ (∃ t : Nat, σ (b + 11) = some (.inr (.inl (3, [.ref (b + 3), .ref (b + 6), .ref (b + 12), .ref (b + 13), .ref (b + 14), .ref t, .int (ii pr.length)])))) ∧ pr.length ≤ 10 ∧
  (∃ g : Nat → Option Nat, σ (b + 12) = some (.inl (.object "ChainDesk$Shelf", 4, .inr (.inr (.inr (.inr g))))) ∧ ∀ i, i < 4 → g i = some (b + 16 + 18 * i)) ∧ (∀ k, k < n → ∃ P, shf σ (b + 16 + 18 * k) (K k) k P) ∧
  ∃ h : Nat → Option Nat, σ (b + 13) = some (.inl (.object "ChainDesk$Phrase", 10, .inr (.inr (.inr (.inr h))))) ∧ ∀ i, i < pr.length → ∃ p, (b + 16 ≤ p ∧ p + 1 < b + 88) ∧ h i = some p ∧ phr σ p (pr.getD i default).1 (pr.getD i default).2.2 (pr.getD i default).2.1
def FP (b : Nat) (σ σ' : am_H) : Prop := ∀ x, x ≠ b + 11 → x ≠ b + 13 → σ' x = σ x
theorem pps.cat {σ : am_H} {n : Nat} {pr : List (List Nat × Nat × Nat)} (h : pps ad σ b hi dec pl da ea K n pr) : X_cat ad σ b hi dec pl da ea := h.1
/-- one proposal more -/
theorem pps.add {σ : am_H} {n p : Nat} {E : Ent} {pr : List (List Nat × Nat × Nat)} {t : Nat} {h : Nat → Option Nat} (hS : pps ad σ b hi dec pl da ea K n pr) (hl : pr.length < 10) (hp : phr σ p E.1 E.2 (cst E.1)) (hb : b + 16 ≤ p ∧ p + 1 < b + 88) (hh : σ (b + 13) = some (.inl (.object "ChainDesk$Phrase", 10, .inr (.inr (.inr (.inr h)))))) :
    pps ad (am_up (am_up σ (b + 13) (.inl (.object "ChainDesk$Phrase", 10, .inr (.inr (.inr (.inr (va_up h pr.length (some p)))))))) (b + 11) (.inr (.inl (3, [.ref (b + 3), .ref (b + 6), .ref (b + 12), .ref (b + 13), .ref (b + 14), .ref t, .int (ii (pr.length + 1))])))) b hi dec pl da ea K n (pr ++ [(E.1, cst E.1, E.2)]) := by
  obtain ⟨h1, ⟨t', h2⟩, h3, ⟨g, h4, h5⟩, h6, h', h7, h8⟩ := hS
  have eh : h' = h := by
    rw [h7] at hh
    injection hh with e
    injection e with e
    injection e with e1 e
    injection e with e2 e
    injection e with e
    injection e with e
    injection e with e
    injection e
  have fr : ∀ x, x ≠ b + 11 → x ≠ b + 13 → am_up (am_up σ (b + 13) (.inl (.object "ChainDesk$Phrase", 10, .inr (.inr (.inr (.inr (va_up h pr.length (some p)))))))) (b + 11) (.inr (.inl (3, [.ref (b + 3), .ref (b + 6), .ref (b + 12), .ref (b + 13), .ref (b + 14), .ref t, .int (ii (pr.length + 1))]))) x = σ x := fun x x1 x2 => by rw [am_up_ne _ _ x1, am_up_ne _ _ x2]
  have el : (pr ++ [(E.1, cst E.1, E.2)]).length = pr.length + 1 := List.length_append
  refine ⟨h1.kept (fr _ (by omega) (by omega)) (fr _ (by omega) (by omega)) (fr _ (by omega) (by omega)) (fun q q1 q2 => fr q (by omega) (by omega)) (Nat.le_refl _), ⟨t, by rw [am_up_self, el]⟩, by omega, ⟨g, (fr _ (by omega) (by omega)).trans h4, h5⟩, fun k hk => ?_, va_up h pr.length (some p), by rw [am_up_ne _ _ (by omega), am_up_self], fun i hi => ?_⟩
  · obtain ⟨P, hP⟩ := h6 k hk
    exact ⟨P, hP.kept (fun x x1 x2 => fr x (by omega) (by omega))⟩
  · rw [el] at hi
    by_cases e : i = pr.length
    · refine ⟨p, hb, by unfold va_up; rw [if_pos e], ?_⟩
      have eg : (pr ++ [(E.1, cst E.1, E.2)]).getD i default = (E.1, cst E.1, E.2) := by
        rw [List.getD_eq_getElem?_getD, e, List.getElem?_append_right (Nat.le_refl _), Nat.sub_self]
        rfl
      rw [eg]
      exact hp.kept (fr _ (by omega) (by omega)) (fr _ (by omega) (by omega))
    · obtain ⟨q, q1, q2, q3⟩ := h8 i (by omega)
      refine ⟨q, q1, by unfold va_up; rw [if_neg e, ← eh]; exact q2, ?_⟩
      have eg : (pr ++ [(E.1, cst E.1, E.2)]).getD i default = pr.getD i default := by
        rw [List.getD_eq_getElem?_getD, List.getElem?_append_left (by omega), ← List.getD_eq_getElem?_getD]
      rw [eg]
      exact q3.kept (fr _ (by omega) (by omega)) (fr _ (by omega) (by omega))
theorem x_prop_shelf {n cost : Nat} {v2 : Value} (hd : 0 < d) (hK : Kok K n) (hcn : cost < n) (hn : n ≤ 4) (ht : t < 13) :
    ∀ (m i : Nat) (σ : am_H), i + m = (K cost).length → pps ad σ b hi dec pl da ea K n (prOf dec (catK K cost ++ (K cost).take i) t) →
    ∃ (σ' : am_H) (v5 : Option Value), FP b σ σ' ∧ pps ad σ' b hi dec pl da ea K n (prOf dec (catK K (cost + 1)) t) ∧
      ∀ res, am_to cd_t cs d 86 97 [some (.ref (b + 11)), some (.int (ii t)), some v2, some (.int (ii cost)), some (.ref (b + 16 + 18 * cost)), v5] [] σ' top sl res → am_to cd_t cs d 86 23 [some (.ref (b + 11)), some (.int (ii t)), some v2, some (.int (ii cost)), some (.ref (b + 16 + 18 * cost)), some (.int (ii i))] [] σ top sl res := by
  obtain ⟨hs, hl8, hKg⟩ := hK cost hcn
  intro m
  induction m with
  | zero =>
    intro i σ hm hS
    rw [show i = (K cost).length by omega] at hS ⊢
    rw [List.take_length] at hS
    obtain ⟨P, hSh⟩ := hS.2.2.2.2.1 cost hcn
    have hS1 := hSh.1
    refine ⟨σ, some (.int (ii (K cost).length)), fun _ _ _ => rfl, hS, fun res hh => ?_⟩
    refine x_n cd_i86_23 rfl rfl ?_
    refine x_n cd_i86_25 rfl rfl ?_
    refine x_getf cd_i86_27 (by assumption) rfl rfl ?_
    show am_to cd_t _ _ 86 30 _ _ _ _ _ _
    exact x_icmp_t cd_i86_30 ((ii_le (by omega) (by omega)).mpr (Nat.le_refl _)) hh
  | succ m ihm =>
    intro i σ hm hS
    have hil : i < (K cost).length := by omega
    have hA := entD_mem hil
    obtain ⟨a1, a2, a3, a4, a5⟩ := hKg _ hA
    obtain ⟨g0, ⟨t0, h11⟩, h10, ⟨g, g1, g2⟩, g3, h, h13, h8⟩ := id hS
    obtain ⟨P, hSh⟩ := g3 cost hcn
    obtain ⟨k1, k2, ⟨gg, k3, k4⟩, k5, k6, k7⟩ := id hSh
    have hPi := k6.1 i (by omega)
    have et : (K cost).take (i + 1) = (K cost).take i ++ [(K cost).getD i default] := by
      rw [List.take_add_one, List.getElem?_eq_getElem hil, entD_in hil]
      rfl
    have go : ∀ res, am_to cd_t cs d 86 39 [some (.ref (b + 11)), some (.int (ii t)), some v2, some (.int (ii cost)), some (.ref (b + 16 + 18 * cost)), some (.int (ii i))] [.int (ii 10), .int (ii (prOf dec (catK K cost ++ (K cost).take i) t).length)] σ top sl res → am_to cd_t cs d 86 23 [some (.ref (b + 11)), some (.int (ii t)), some v2, some (.int (ii cost)), some (.ref (b + 16 + 18 * cost)), some (.int (ii i))] [] σ top sl res := by
      intro res hh
      refine x_n cd_i86_23 rfl rfl ?_
      refine x_n cd_i86_25 rfl rfl ?_
      refine x_getf cd_i86_27 (by assumption) rfl rfl ?_
      show am_to cd_t _ _ 86 30 _ _ _ _ _ _
      refine x_icmp_f cd_i86_30 (fun z => by have := (ii_le (by omega) (by omega)).mp (show ii (K cost).length ≤ ii i from z); omega) ?_
      refine x_n cd_i86_33 rfl rfl ?_
      refine x_getf cd_i86_34 (by assumption) rfl rfl ?_
      refine x_bi cd_i86_37 (z := ii 10) (by decide) ?_
      show am_to cd_t _ _ 86 39 _ _ _ _ _ _
      exact hh
    by_cases hful : (prOf dec (catK K cost ++ (K cost).take i) t).length < 10
    · have snoc := prOf_snoc (dec := dec) (t := t) (Q := catK K cost ++ (K cost).take i) (E := (K cost).getD i default)
      rw [List.append_assoc, ← et] at snoc
      have hfit := x_isFitting (cs := cs) (d := d - 1) (top := top) (sl := sl) g0.1 g0.2.2.2.1 a3 ht
      have hpA := k7 i hil
      have hpA1 := hpA.at
      have go2 : ∀ res, am_to cd_t cs d 86 61 [some (.ref (b + 11)), some (.int (ii t)), some v2, some (.int (ii cost)), some (.ref (b + 16 + 18 * cost)), some (.int (ii i))] [.int (b2i (fitB dec ((K cost).getD i default).2 t))] σ top sl res → am_to cd_t cs d 86 23 [some (.ref (b + 11)), some (.int (ii t)), some v2, some (.int (ii cost)), some (.ref (b + 16 + 18 * cost)), some (.int (ii i))] [] σ top sl res := by
        intro res hh
        refine go res ?_
        refine x_icmp_f cd_i86_39 (fun z => by have := (ii_le (by omega) (by omega)).mp (show ii 10 ≤ ii (prOf dec (catK K cost ++ (K cost).take i) t).length from z); omega) ?_
        refine x_n cd_i86_42 rfl rfl ?_
        refine x_getf cd_i86_43 h11 rfl rfl ?_
        refine x_n cd_i86_46 rfl rfl ?_
        refine x_getf cd_i86_48 k1 rfl rfl ?_
        refine x_n cd_i86_51 rfl rfl ?_
        refine x_aaload cd_i86_53 k3 (by omega) (by decide) ?_
        rw [k4 i (by omega)]
        refine x_getf cd_i86_54 hpA1 rfl rfl ?_
        refine x_n cd_i86_57 rfl rfl ?_
        exact x_callv (as' := [.int (ii ((K cost).getD i default).2), .int (ii t)]) cd_i86_58 g0.1 hd rfl rfl rfl rfl rfl rfl hfit hh
      cases hf : fitB dec ((K cost).getD i default).2 t with
      | false =>
        rw [hf, if_neg (fun h => by cases h.1)] at snoc
        rw [hf] at go2
        obtain ⟨s2, v5, c1, c2, c3⟩ := ihm (i + 1) σ (by omega) (by rw [snoc]; exact hS)
        refine ⟨s2, v5, c1, c2, fun res hh => go2 res (x_if_t cd_i86_61 rfl ?_)⟩
        refine x_iinc cd_i86_91 rfl (ii_add _ 1) rfl ?_
        refine x_n cd_i86_94 rfl rfl ?_
        show am_to cd_t _ _ 86 23 _ _ _ _ _ _
        exact c3 res hh
      | true =>
        rw [hf, if_pos ⟨rfl, hful⟩] at snoc
        rw [hf] at go2
        have hpA' : phr σ (pad (b + 16 + 18 * cost) P i) ((K cost).getD i default).1 ((K cost).getD i default).2 (cst ((K cost).getD i default).1) := by rw [a2]; exact hpA
        have hS2 := hS.add (t := t0) hful hpA' ⟨by unfold pad; omega, by unfold pad; omega⟩ h13
        rw [← snoc] at hS2
        generalize hpr : prOf dec (catK K cost ++ (K cost).take i) t = pr at *
        obtain ⟨s1, hs1⟩ : ∃ s, s = am_up σ (b + 13) (.inl (.object "ChainDesk$Phrase", 10, .inr (.inr (.inr (.inr (va_up h pr.length (some (pad (b + 16 + 18 * cost) P i)))))))) := ⟨_, rfl⟩
        rw [← hs1] at hS2
        obtain ⟨s2, hs2⟩ : ∃ s, s = am_up s1 (b + 11) (.inr (.inl (3, [.ref (b + 3), .ref (b + 6), .ref (b + 12), .ref (b + 13), .ref (b + 14), .ref t0, .int (ii (pr.length + 1))]))) := ⟨_, rfl⟩
        rw [← hs2] at hS2
        have e1 : s1 (b + 11) = _ := (hs1 ▸ am_up_ne _ _ (by omega)).trans h11
        have f2 : FP b σ s2 := fun x x1 x2 => by rw [hs2, am_up_ne _ _ x1, hs1, am_up_ne _ _ x2]
        obtain ⟨s3, v5, c1, c2, c3⟩ := ihm (i + 1) s2 (by omega) hS2
        refine ⟨s3, v5, fun x x1 x2 => (c1 x x1 x2).trans (f2 x x1 x2), c2, fun res hh => go2 res (x_if_f cd_i86_61 (fun z => absurd (show (1 : Int32) = 0 from z) (by decide)) ?_)⟩
        refine x_n cd_i86_64 rfl rfl ?_
        refine x_getf cd_i86_65 h11 rfl rfl ?_
        refine x_n cd_i86_68 rfl rfl ?_
        refine x_getf cd_i86_69 h11 rfl rfl ?_
        refine x_n cd_i86_72 rfl rfl ?_
        refine x_getf cd_i86_74 k1 rfl rfl ?_
        refine x_n cd_i86_77 rfl rfl ?_
        refine x_aaload cd_i86_79 k3 (by omega) (by decide) ?_
        rw [k4 i (by omega)]
        refine x_aastore cd_i86_80 h13 hpA1 rfl hful (by decide) ?_
        refine hs1 ▸ ?_
        refine x_n cd_i86_81 rfl rfl ?_
        refine x_n cd_i86_82 rfl rfl ?_
        show am_to cd_t _ _ 86 83 _ _ _ _ _ _
        refine x_getf cd_i86_83 e1 rfl rfl ?_
        refine x_ic cd_i86_86 (z := ii 1) rfl ?_
        refine x_iadd cd_i86_87 (ii_add _ 1) ?_
        refine x_putf cd_i86_88 (fs' := [.ref (b + 3), .ref (b + 6), .ref (b + 12), .ref (b + 13), .ref (b + 14), .ref t0, .int (ii (pr.length + 1))]) e1 rfl rfl rfl ?_
        refine hs2 ▸ ?_
        refine x_iinc cd_i86_91 rfl (ii_add _ 1) rfl ?_
        refine x_n cd_i86_94 rfl rfl ?_
        show am_to cd_t _ _ 86 23 _ _ _ _ _ _
        exact c3 res hh
    · have h10' : (prOf dec (catK K cost ++ (K cost).take i) t).length = 10 := by omega
      have e := prOf_full (R := (K cost).drop i) h10'
      rw [List.append_assoc, List.take_append_drop] at e
      refine ⟨σ, some (.int (ii i)), fun _ _ _ => rfl, ?_, fun res hh => go res (x_icmp_t cd_i86_39 ((ii_le (by omega) (by omega)).mpr (by omega)) hh)⟩
      show pps ad σ b hi dec pl da ea K n (prOf dec (catK K cost ++ K cost) t)
      rw [e]
      exact hS
theorem x_propose_loop {n : Nat} (hd : 0 < d) (hK : Kok K (n + 1)) (hn : n < 4) (ht : t < 13) :
    ∀ (m cost : Nat) (σ : am_H) (v4 v5 : Option Value), cost + m = n + 1 → pps ad σ b hi dec pl da ea K (n + 1) (prOf dec (catK K cost) t) →
    ∃ σ' : am_H, FP b σ σ' ∧ pps ad σ' b hi dec pl da ea K (n + 1) (prOf dec (catK K (n + 1)) t) ∧ am_to cd_t cs d 86 7 [some (.ref (b + 11)), some (.int (ii t)), some (.int (ii n)), some (.int (ii cost)), v4, v5] [] σ top sl (.inl (some (.int (ii (prOf dec (catK K (n + 1)) t).length))), σ', top, sl) := by
  intro m
  induction m with
  | zero =>
    intro cost σ v4 v5 hm hS
    rw [show cost = n + 1 by omega] at hS ⊢
    obtain ⟨g0, ⟨t0, h11⟩, -⟩ := id hS
    refine ⟨σ, fun _ _ _ => rfl, hS, ?_⟩
    refine x_n cd_i86_7 rfl rfl ?_
    refine x_n cd_i86_8 rfl rfl ?_
    show am_to cd_t _ _ 86 9 _ _ _ _ _ _
    refine x_icmp_t cd_i86_9 ((ii_lt (by omega) (by omega)).mpr (Nat.lt_succ_self _)) ?_
    refine x_n cd_i86_103 rfl rfl ?_
    refine x_getf cd_i86_104 (by assumption) rfl rfl ?_
    show am_to cd_t _ _ 86 107 _ _ _ _ _ _
    exact x_end cd_i86_107 rfl rfl rfl
  | succ m ihm =>
    intro cost σ v4 v5 hm hS
    obtain ⟨g0, ⟨t0, h11⟩, h10, ⟨g, g1, g2⟩, -⟩ := id hS
    obtain ⟨s1, v5', c1, c2, c3⟩ := x_prop_shelf (cs := cs) (top := top) (sl := sl) (v2 := .int (ii n)) hd hK (show cost < n + 1 by omega) (by omega) ht (K cost).length 0 σ (Nat.zero_add _) (by rw [List.take_zero, List.append_nil]; exact hS)
    obtain ⟨s2, k1, k2, k3⟩ := ihm (cost + 1) s1 (some (.ref (b + 16 + 18 * cost))) v5' (by omega) c2
    refine ⟨s2, fun x x1 x2 => (k1 x x1 x2).trans (c1 x x1 x2), k2, ?_⟩
    refine x_n cd_i86_7 rfl rfl ?_
    refine x_n cd_i86_8 rfl rfl ?_
    show am_to cd_t _ _ 86 9 _ _ _ _ _ _
    refine x_icmp_f cd_i86_9 (fun z => by have := (ii_lt (by omega) (by omega)).mp (show ii n < ii cost from z); omega) ?_
    refine x_n cd_i86_12 rfl rfl ?_
    refine x_getf cd_i86_13 (by assumption) rfl rfl ?_
    refine x_n cd_i86_16 rfl rfl ?_
    show am_to cd_t _ _ 86 17 _ _ _ _ _ _
    refine x_aaload cd_i86_17 g1 (by omega) (by decide) ?_
    rw [g2 cost (by omega)]
    refine x_n cd_i86_18 rfl rfl ?_
    try dsimp only [List.set]
    refine x_ic cd_i86_20 (z := ii 0) rfl ?_
    refine x_n cd_i86_21 rfl rfl ?_
    try dsimp only [List.set]
    show am_to cd_t _ _ 86 23 _ _ _ _ _ _
    refine c3 _ ?_
    refine x_iinc cd_i86_97 rfl (ii_add _ 1) rfl ?_
    refine x_n cd_i86_100 rfl rfl ?_
    show am_to cd_t _ _ 86 7 _ _ _ _ _ _
    exact k3
end PRP
