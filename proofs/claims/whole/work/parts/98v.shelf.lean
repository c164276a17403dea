/-! a shelf of the desk -/
abbrev pad (s : Nat) (P : Nat → Nat) (i : Nat) : Nat := s + 2 + 2 * P i
def perm8 (P : Nat → Nat) : Prop := (∀ i, i < 8 → P i < 8) ∧ ∀ i j, i < 8 → j < 8 → P i = P j → i = j
def shf (σ : am_H) (s : Nat) (L : List Ent) (c : Nat) (P : Nat → Nat) : Prop := σ s = some (.inr (.inl (10, [.ref (s + 1), .int (ii L.length)]))) ∧ L.length ≤ 8 ∧
  (∃ h : Nat → Option Nat, σ (s + 1) = some (.inl (.object "ChainDesk$Phrase", 8, .inr (.inr (.inr (.inr h))))) ∧ ∀ i, i < 8 → h i = some (pad s P i)) ∧
  (∀ i, i < 8 → ∃ w ty co, phr σ (pad s P i) w ty co) ∧ perm8 P ∧ ∀ i, i < L.length → phr σ (pad s P i) (L.getD i default).1 (L.getD i default).2 c
theorem shf.kept {σ σ' : am_H} {s c : Nat} {L : List Ent} {P : Nat → Nat} (h : shf σ s L c P) (hq : ∀ x, s ≤ x → x < s + 18 → σ' x = σ x) : shf σ' s L c P := by
  obtain ⟨h1, h2, ⟨g, h3, h4⟩, h5, h6, h7⟩ := h
  refine ⟨(hq s (by omega) (by omega)).trans h1, h2, ⟨g, (hq _ (by omega) (by omega)).trans h3, h4⟩, fun i hi => ?_, h6, fun i hi => ?_⟩
  · have := h6.1 i hi
    obtain ⟨w, ty, co, hp⟩ := h5 i hi
    exact ⟨w, ty, co, hp.kept (hq _ (by unfold pad; omega) (by unfold pad; omega)) (hq _ (by unfold pad; omega) (by unfold pad; omega))⟩
  · have := h6.1 i (by omega)
    exact (h7 i hi).kept (hq _ (by unfold pad; omega) (by unfold pad; omega)) (hq _ (by unfold pad; omega) (by unfold pad; omega))
def roomB (L : List Ent) (w : List Nat) : Bool := decide (w.length ≤ 24) && (decide (L.length < 8) || ltT w (L.getD 7 default).1)
theorem entD_mem {L : List Ent} {i : Nat} (h : i < L.length) : L.getD i default ∈ L := by rw [entD_in h]; exact List.getElem_mem h
/-- what has no room, and all that begins with it, changes nothing -/
theorem room_none {L : List Ent} {w v : List Nat} (hs : srt L) (h8 : L.length ≤ 8) (hr : roomB L w = false) (hv : ∃ r, v = w ++ r) (hne : v ≠ w ∨ ∀ y ∈ L, y.1 ≠ w) : 24 < v.length ∨ (L.length = 8 ∧ ∀ y ∈ L, ltT y.1 v = true) := by
  obtain ⟨r, er⟩ := hv
  unfold roomB at hr
  by_cases hl : w.length ≤ 24
  · rw [decide_eq_true hl, Bool.true_and, Bool.or_eq_false_iff, decide_eq_false_iff_not] at hr
    obtain ⟨r1, r2⟩ := hr
    have hL : L.length = 8 := by omega
    refine Or.inr ⟨hL, fun y hy => ?_⟩
    have hy7 : ltT y.1 (L.getD 7 default).1 = true ∨ y = L.getD 7 default := by
      obtain ⟨i, hi, e⟩ := List.getElem_of_mem hy
      by_cases h7 : i = 7
      · right
        rw [← e, entD_in (by omega)]
        simp only [h7]
      · left
        rw [← e, entD_in (show 7 < L.length by omega)]
        exact List.pairwise_iff_getElem.mp hs i 7 hi (by omega) (by omega)
    have h7 : ltT (L.getD 7 default).1 w = true ∨ (L.getD 7 default).1 = w := by
      rcases ltT_tri w (L.getD 7 default).1 with h | h | h
      · rw [h] at r2; cases r2
      · exact Or.inr h.symm
      · exact Or.inl h
    have hyw : ltT y.1 w = true ∨ y.1 = w := by
      rcases hy7 with a | a <;> rcases h7 with b | b
      · exact Or.inl (ltT_trans a b)
      · rw [b] at a; exact Or.inl a
      · rw [a]; exact Or.inl b
      · rw [a]; exact Or.inr b
    rcases hyw with a | a
    · rw [er]
      exact ltT_ext a
    · rcases hne with h | h
      · rw [a, er]
        exact ltT_eqext w r (fun z => h (by rw [er, z, List.append_nil]))
      · exact absurd a (h y hy)
  · left
    rw [er, List.length_append]
    omega
section SHF
variable {cs : Nat → Value} {d top sl : Nat} {σ : am_H}
theorem x_room {s p c ty co : Nat} {L : List Ent} {P : Nat → Nat} {w : List Nat} (hd : 0 < d) (hS : shf σ s L c P) (hp : phr σ p w ty co) (hw : low7 w) (hL : ∀ e ∈ L, low7 e.1) :
    am_to cd_t cs d 74 0 (am_ent 2 [.ref s, .ref p]) [] σ top sl (.inl (some (.int (b2i (roomB L w)))), σ, top, sl) := by
  obtain ⟨h1, h2, ⟨g, h3, h4⟩, h5, h6, h7⟩ := hS
  have hlen := hp.len
  have hlong := x_long (cs := cs) (d := d - 1) (top := top) (sl := sl) hp
  obtain ⟨f, hp1, -⟩ := id hp
  unfold roomB
  refine x_n cd_i74_0 rfl rfl ?_
  refine x_callv (as' := []) cd_i74_1 hp1 hd rfl rfl rfl rfl rfl rfl hlong ?_
  by_cases hl : w.length ≤ 24
  · rw [decide_eq_false (show ¬ 24 < w.length by omega), decide_eq_true hl, Bool.true_and]
    refine x_if_t cd_i74_4 rfl ?_
    refine x_n cd_i74_9 rfl rfl ?_
    refine x_getf cd_i74_10 h1 rfl rfl ?_
    refine x_n cd_i74_13 rfl rfl ?_
    refine x_getf cd_i74_14 h1 rfl rfl ?_
    refine x_len cd_i74_17 h3 ?_
    by_cases h8 : L.length < 8
    · rw [decide_eq_true h8, Bool.true_or]
      refine x_icmp_t cd_i74_18 ((ii_lt (by omega) (by decide)).mpr h8) ?_
      refine x_ic cd_i74_40 (z := ii 1) rfl ?_
      refine x_n cd_i74_41 rfl rfl ?_
      show am_to cd_t _ _ 74 45 _ _ _ _ _ _
      exact x_end cd_i74_45 rfl rfl rfl
    · rw [decide_eq_false h8, Bool.false_or]
      refine x_icmp_f cd_i74_18 (fun z => h8 ((ii_lt (by omega) (by decide)).mp z)) ?_
      have hbf := x_before (cs := cs) (d := d - 1) (top := top) (sl := sl) hp (h7 7 (by omega)) hw (hL _ (entD_mem (by omega)))
      refine x_n cd_i74_21 rfl rfl ?_
      refine x_n cd_i74_22 rfl rfl ?_
      show am_to cd_t _ _ 74 23 _ _ _ _ _ _
      refine x_getf cd_i74_23 h1 rfl rfl ?_
      refine x_n cd_i74_26 rfl rfl ?_
      refine x_getf cd_i74_27 h1 rfl rfl ?_
      refine x_len cd_i74_30 h3 ?_
      refine x_ic cd_i74_31 (z := ii 1) rfl ?_
      refine x_isub cd_i74_32 (z := ii 7) rfl ?_
      refine x_aaload cd_i74_33 h3 (by decide) (by decide) ?_
      rw [h4 7 (by decide)]
      refine x_callv (as' := [.ref (pad s P 7)]) cd_i74_34 hp1 hd rfl rfl rfl rfl rfl rfl hbf ?_
      cases ltT w (L.getD 7 default).1 with
      | true =>
        refine x_if_f cd_i74_37 (fun z => absurd (show (1 : Int32) = 0 from z) (by decide)) ?_
        refine x_ic cd_i74_40 (z := ii 1) rfl ?_
        refine x_n cd_i74_41 rfl rfl ?_
        show am_to cd_t _ _ 74 45 _ _ _ _ _ _
        exact x_end cd_i74_45 rfl rfl rfl
      | false =>
        refine x_if_t cd_i74_37 rfl ?_
        refine x_ic cd_i74_44 (z := ii 0) rfl ?_
        show am_to cd_t _ _ 74 45 _ _ _ _ _ _
        exact x_end cd_i74_45 rfl rfl rfl
  · rw [decide_eq_true (show 24 < w.length by omega), decide_eq_false hl, Bool.false_and]
    refine x_if_f cd_i74_4 (fun z => absurd (show (1 : Int32) = 0 from z) (by decide)) ?_
    refine x_ic cd_i74_7 (z := ii 0) rfl ?_
    show am_to cd_t _ _ 74 8 _ _ _ _ _ _
    exact x_end cd_i74_8 rfl rfl rfl
/-- the rows behind a new text go one place on -/
theorem x_keep_loop {s p n ty co c : Nat} {L : List Ent} {P : Nat → Nat} {w : List Nat} {v3 : Value} {z : Int32} (hd : 0 < d) (hpd : p + 1 < s ∨ s + 18 ≤ p) (hP : perm8 P) (hw : low7 w) (hL : ∀ e ∈ L, low7 e.1) (h8 : L.length ≤ 8) (hn : n ≤ 7) (hnL : n ≤ L.length) :
    ∀ (k : Nat) (σ : am_H) (h : Nat → Option Nat), k ≤ n → σ s = some (.inr (.inl (10, [.ref (s + 1), .int z]))) → σ (s + 1) = some (.inl (.object "ChainDesk$Phrase", 8, .inr (.inr (.inr (.inr h))))) → (∀ i, i < k → h i = some (pad s P i)) → (∀ i, k < i → i ≤ n → h i = some (pad s P (i - 1))) → (∀ i, n < i → i < 8 → h i = some (pad s P i)) → phr σ p w ty co → (∀ i, i < 8 → ∃ w ty co, phr σ (pad s P i) w ty co) → (∀ i, i < L.length → phr σ (pad s P i) (L.getD i default).1 (L.getD i default).2 c) → (∀ y ∈ L.drop k, ltT w y.1 = true) →
    ∃ (σ' : am_H) (h' : Nat → Option Nat), posR L w ≤ n ∧ σ' (s + 1) = some (.inl (.object "ChainDesk$Phrase", 8, .inr (.inr (.inr (.inr h'))))) ∧ (∀ i, i < posR L w → h' i = some (pad s P i)) ∧ (∀ i, posR L w < i → i ≤ n → h' i = some (pad s P (i - 1))) ∧ (∀ i, n < i → i < 8 → h' i = some (pad s P i)) ∧ (∀ x, x ≠ s + 1 → σ' x = σ x) ∧
      ∀ res, am_to cd_t cs d 73 84 [some (.ref s), some (.ref p), some (.int (ii (posR L w))), some v3] [] σ' top sl res → am_to cd_t cs d 73 45 [some (.ref s), some (.ref p), some (.int (ii k)), some v3] [] σ top sl res := by
  intro k
  induction k with
  | zero =>
    intro σ h hk h1 h2 h3 h4 h5 hp hq hr hB
    have e := posR_stop (A := []) (B := L) (w := w) (by rw [List.drop_zero] at hB; exact hB) (Or.inl rfl)
    rw [List.nil_append] at e
    have e : posR L w = 0 := e
    rw [e]
    refine ⟨σ, h, hk, h2, h3, h4, h5, fun _ _ => rfl, fun res hh => ?_⟩
    refine x_n cd_i73_45 rfl rfl ?_
    exact x_if_t cd_i73_46 (show ii 0 ≤ 0 by decide) hh
  | succ k ih =>
    intro σ h hk h1 h2 h3 h4 h5 hp hq hr hB
    have hkL : k < L.length := by omega
    have hbf := x_before (cs := cs) (d := d - 1) (top := top) (sl := sl) hp (hr k hkL) hw (hL _ (entD_mem hkL))
    obtain ⟨f, hp1, -⟩ := id hp
    have go : ∀ res, am_to cd_t cs d 73 61 [some (.ref s), some (.ref p), some (.int (ii (k + 1))), some v3] [.int (b2i (ltT w (L.getD k default).1))] σ top sl res → am_to cd_t cs d 73 45 [some (.ref s), some (.ref p), some (.int (ii (k + 1))), some v3] [] σ top sl res := by
      intro res hh
      refine x_n cd_i73_45 rfl rfl ?_
      refine x_if_f cd_i73_46 (fun z => by have := (ii_le (b := 0) (by omega) (by decide)).mp (show ii (k + 1) ≤ ii 0 from z); omega) ?_
      refine x_n cd_i73_49 rfl rfl ?_
      refine x_n cd_i73_50 rfl rfl ?_
      show am_to cd_t _ _ 73 51 _ _ _ _ _ _
      refine x_getf cd_i73_51 h1 rfl rfl ?_
      refine x_n cd_i73_54 rfl rfl ?_
      refine x_ic cd_i73_55 (z := ii 1) rfl ?_
      refine x_isub cd_i73_56 (z := ii k) (ii_sub (b := 1) (by omega)) ?_
      refine x_aaload cd_i73_57 h2 (by omega) (by decide) ?_
      rw [h3 k (by omega)]
      refine x_callv (as' := [.ref (pad s P k)]) cd_i73_58 hp1 hd rfl rfl rfl rfl rfl rfl hbf ?_
      exact hh
    have hdrop : L.drop k = L.getD k default :: L.drop (k + 1) := by
      rw [List.drop_eq_getElem_cons hkL, entD_in hkL]
    cases hb : ltT w (L.getD k default).1 with
    | true =>
      rw [hb] at go
      obtain ⟨wq, tq, cq, hpq⟩ := hq k (by omega)
      obtain ⟨fq, hpq1, -⟩ := id hpq
      have hPk := hP.1 k (by omega)
      obtain ⟨s1, hs1⟩ : ∃ t, t = am_up σ (s + 1) (.inl (.object "ChainDesk$Phrase", 8, .inr (.inr (.inr (.inr (va_up h (k + 1) (some (pad s P k)))))))) := ⟨_, rfl⟩
      have fr : ∀ x, x ≠ s + 1 → s1 x = σ x := fun x hx => by rw [hs1, am_up_ne _ _ hx]
      obtain ⟨s2, h', c1, c2, c3, c4, c5, c6, c7⟩ := ih s1 (va_up h (k + 1) (some (pad s P k))) (by omega) ((fr s (by omega)).trans h1) (by rw [hs1, am_up_self]) (fun i hi => by
          unfold va_up
          rw [if_neg (by omega)]
          exact h3 i (by omega)) (fun i hi1 hi2 => by
          unfold va_up
          by_cases ei : i = k + 1
          · rw [if_pos ei, ei, Nat.add_sub_cancel]
          · rw [if_neg ei]
            exact h4 i (by omega) hi2) (fun i hi1 hi2 => by
          unfold va_up
          rw [if_neg (by omega)]
          exact h5 i hi1 hi2) (hp.kept (fr _ (by omega)) (fr _ (by omega))) (fun i hi => by
          obtain ⟨a1, a2, a3, a4⟩ := hq i hi
          have := hP.1 i hi
          exact ⟨a1, a2, a3, a4.kept (fr _ (by unfold pad; omega)) (fr _ (by unfold pad; omega))⟩) (fun i hi => (hr i hi).kept (fr _ (by unfold pad; omega)) (fr _ (by unfold pad; omega))) (fun y hy => by
          rw [hdrop] at hy
          rcases List.mem_cons.mp hy with e | hy
          · rw [e]; exact hb
          · exact hB y hy)
      refine ⟨s2, h', c1, c2, c3, c4, c5, fun x hx => (c6 x hx).trans (fr x hx), fun res hh => ?_⟩
      refine go res (x_if_f cd_i73_61 (fun z => absurd (show (1 : Int32) = 0 from z) (by decide)) ?_)
      refine x_n cd_i73_64 rfl rfl ?_
      refine x_getf cd_i73_65 h1 rfl rfl ?_
      refine x_n cd_i73_68 rfl rfl ?_
      refine x_n cd_i73_69 rfl rfl ?_
      show am_to cd_t _ _ 73 70 _ _ _ _ _ _
      refine x_getf cd_i73_70 h1 rfl rfl ?_
      refine x_n cd_i73_73 rfl rfl ?_
      refine x_ic cd_i73_74 (z := ii 1) rfl ?_
      refine x_isub cd_i73_75 (z := ii k) (ii_sub (b := 1) (by omega)) ?_
      refine x_aaload cd_i73_76 h2 (by omega) (by decide) ?_
      rw [h3 k (by omega)]
      refine x_aastore cd_i73_77 h2 hpq1 rfl (by omega) (by decide) ?_
      refine hs1 ▸ ?_
      refine x_iinc cd_i73_78 rfl (z := ii k) (ii_sub1 (by omega)) rfl ?_
      refine x_n cd_i73_81 rfl rfl ?_
      show am_to cd_t _ _ 73 45 _ _ _ _ _ _
      exact c7 res hh
    | false =>
      rw [hb] at go
      have e := posR_stop (A := L.take (k + 1)) (B := L.drop (k + 1)) (w := w) hB (Or.inr ⟨L.take k, L.getD k default, by rw [List.take_add_one, List.getElem?_eq_getElem hkL, entD_in hkL]; rfl, hb⟩)
      rw [List.take_append_drop, List.length_take, Nat.min_eq_left (by omega)] at e
      rw [e]
      exact ⟨σ, h, hk, h2, h3, h4, h5, fun _ _ => rfl, fun res hh => go res (x_if_t cd_i73_61 rfl hh)⟩
end SHF
