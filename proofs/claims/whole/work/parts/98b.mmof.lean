section RM3
variable {cs : Nat → Value} {d m top sl : Nat} {σ : am_H} {i : Nat → Int32} {a : Nat → Nat → Int32} {dec : Nat → Option Dec} {pl : Int32} {rk : Nat → Nat}
def pickT (dec : Nat → Option Dec) (pl : Int32) (k : Nat) (w : List Nat) (t : Nat ⊕ Nat) : Option (Nat × Nat) := match t with
  | .inl t => fsO dec pl k w (if 3 ≤ t then some (t - 3) else none)
  | .inr c => staL dec pl c k w
/-- the last that is meant, so far -/
def lastR (P : Nat → Nat → Bool) (x j : Nat) (f : Option (Nat × Nat)) : Prop := match f with
  | none => ∀ y q, y < x ∨ (y = x ∧ q < j) → q < 6 → P y q = false
  | some r => P r.1 r.2 = true
theorem m_member_in {k x : Nat} {w : List Nat} {t : Nat ⊕ Nat} (hd : 3 < d) (hM : mo σ m i a) (hC : M_cat a dec) (hO : catOk dec) (hr : ranked dec rk) (hpl : i 18 = pl) (hk : k < 2) (hw : nameOk w) (hx : x < 10) (ht : match t with | .inl t => t < 13 | .inr c => c < 10) :
    ∀ (n j : Nat) (f : Option (Nat × Nat)) (v6 : Option Value), j + n = 6 → lastR (mP dec pl k w t) x j f → ∃ (f' : Option (Nat × Nat)) (v6' : Option Value), lastR (mP dec pl k w t) x 6 f' ∧ ∀ res, am_to cd_t cs d 150 6 [some (.ref m), some (.int (tI t)), some (.int (ii (n27 w))), some (.int (ii k)), some (.int (rowO f')), some (.int (ii (6 * x + 6))), v6'] [] σ top sl res → am_to cd_t cs d 150 6 [some (.ref m), some (.int (tI t)), some (.int (ii (n27 w))), some (.int (ii k)), some (.int (rowO f)), some (.int (ii (6 * x + j))), v6] [] σ top sl res := by
  intro n
  induction n with
  | zero =>
    intro j f v6 hj hf
    rw [show j = 6 by omega] at hf ⊢
    exact ⟨f, v6, hf, fun res hh => hh⟩
  | succ n ih =>
    intro j f v6 hj hf
    obtain ⟨v1, h1⟩ := m_member_one (cs := cs) (d := d) (top := top) (sl := sl) (k := k) (w := w) (t := t) (z := rowO f) (v6 := v6) hd hM hC hO hr hpl hk hw hx (show j < 6 by omega) ht
    have e : (if mP dec pl k w t x j = true then ii (6 * x + j) else rowO f) = rowO (if mP dec pl k w t x j = true then some (x, j) else f) := by
      split <;> rfl
    rw [e] at h1
    have hf' : lastR (mP dec pl k w t) x (j + 1) (if mP dec pl k w t x j = true then some (x, j) else f) := by
      by_cases hp : mP dec pl k w t x j = true
      · rw [if_pos hp]
        exact hp
      · rw [if_neg hp]
        cases f with
        | none =>
          intro y q hq hq6
          by_cases e : y = x ∧ q = j
          · rw [e.1, e.2]
            cases h : mP dec pl k w t x j with
            | false => rfl
            | true => exact absurd h hp
          · exact hf y q (by omega) hq6
        | some r => exact hf
    obtain ⟨f', v6', k1, k2⟩ := ih (j + 1) _ v1 (by omega) hf'
    exact ⟨f', v6', k1, fun res hh => h1 res (k2 res hh)⟩
theorem m_memberOf {k : Nat} {w : List Nat} {t : Nat ⊕ Nat} (hd : 3 < d) (hM : mo σ m i a) (hC : M_cat a dec) (hO : catOk dec) (hr : ranked dec rk) (hpl : i 18 = pl) (hk : k < 2) (hw : nameOk w) (ht : match t with | .inl t => t < 13 | .inr c => c < 10) :
    am_to cd_t cs d 150 0 (am_ent 7 [.ref m, .int (tI t), .int (ii (n27 w)), .int (ii k)]) [] σ top sl (.inl (some (.int (rowO (pickT dec pl k w t)))), σ, top, sl) := by
  have loop : ∀ (n x : Nat) (f : Option (Nat × Nat)) (v6 : Option Value), x + n = 10 → lastR (mP dec pl k w t) x 0 f → ∃ f', lastR (mP dec pl k w t) 10 0 f' ∧ am_to cd_t cs d 150 6 [some (.ref m), some (.int (tI t)), some (.int (ii (n27 w))), some (.int (ii k)), some (.int (rowO f)), some (.int (ii (6 * x))), v6] [] σ top sl (.inl (some (.int (rowO f'))), σ, top, sl) := by
    intro n
    induction n with
    | zero =>
      intro x f v6 hx hf
      rw [show x = 10 by omega] at hf ⊢
      refine ⟨f, hf, ?_⟩
      refine x_n cd_i150_6 rfl rfl ?_
      refine x_bi cd_i150_8 (z := ii 60) (by decide) ?_
      show am_to cd_t _ _ 150 10 _ _ _ _ _ _
      refine x_icmp_t cd_i150_10 (show ii 60 ≤ ii (6 * 10) by decide) ?_
      refine x_n cd_i150_143 rfl rfl ?_
      show am_to cd_t _ _ 150 145 _ _ _ _ _ _
      exact x_end cd_i150_145 rfl rfl rfl
    | succ n ih =>
      intro x f v6 hx hf
      obtain ⟨f1, v61, k1, k2⟩ := m_member_in (cs := cs) (d := d) (top := top) (sl := sl) (k := k) (w := w) (t := t) (x := x) hd hM hC hO hr hpl hk hw (by omega) ht 6 0 f v6 rfl hf
      have hf1 : lastR (mP dec pl k w t) (x + 1) 0 f1 := by
        cases f1 with
        | none =>
          intro y q hq hq6
          exact k1 y q (by omega) hq6
        | some r => exact k1
      obtain ⟨f', l1, l2⟩ := ih (x + 1) f1 v61 (by omega) hf1
      refine ⟨f', l1, k2 _ ?_⟩
      rw [show 6 * (x + 1) = 6 * x + 6 by omega] at l2
      exact l2
  obtain ⟨f', l1, l2⟩ := loop 10 0 none none rfl (fun y q hq => by omega)
  have key : ∀ o : Option (Nat × Nat), (∀ x j, o = some (x, j) → x < 10 ∧ j < 6 ∧ mP dec pl k w t x j = true) → (∀ x j, mP dec pl k w t x j = true → o = some (x, j)) → f' = o := by
    intro o h1 h2
    cases hf : f' with
    | none =>
      rw [hf] at l1
      cases o with
      | none => rfl
      | some q =>
        obtain ⟨y1, y2, y3⟩ := h1 q.1 q.2 rfl
        have := l1 q.1 q.2 (by omega) y2
        rw [y3] at this
        cases this
    | some r =>
      rw [hf] at l1
      exact (h2 r.1 r.2 l1).symm
  have inLen : ∀ x j, j < (memsOf dec x).length → x < 10 ∧ j < 6 := by
    intro x j hj
    unfold memsOf at hj
    cases hD : dec x with
    | none =>
      rw [hD] at hj
      exact absurd hj (Nat.not_lt_zero _)
    | some D =>
      rw [hD] at hj
      have := (hO x D hD).1
      have hj : j < D.2.length := hj
      exact ⟨(hr x D hD).1, by omega⟩
  have fin : f' = (pickT dec pl k w t) := by
    cases t with
    | inl t =>
      refine key _ (fun x j h => ?_) (fun x j h => ?_)
      · by_cases h3 : 3 ≤ t
        · have h : fsL dec pl k w (chain dec 11 (t - 3)) = some (x, j) := by
            have h' : fsO dec pl k w (if 3 ≤ t then some (t - 3) else none) = some (x, j) := h
            rw [if_pos h3] at h'
            exact h'
          obtain ⟨y1, y2, y3, y4⟩ := fsL_some _ h
          obtain ⟨z1, z2⟩ := inLen x j y2
          refine ⟨z1, z2, ?_⟩
          unfold mP snB
          dsimp only
          have y3' := y3
          unfold isNm at y3'
          rw [Bool.and_eq_true, beq_iff_eq, beq_iff_eq] at y3'
          rw [decide_eq_true y2, y3, decide_eq_true h3, y3'.1, y3'.2, h, beq_self_eq_true, beq_eq_false_iff_ne.mpr (show ¬ k = 2 by omega)]
          rfl
        · have h' : fsO dec pl k w (if 3 ≤ t then some (t - 3) else none) = some (x, j) := h
          rw [if_neg h3] at h'
          cases h'
      · unfold mP at h
        dsimp only at h
        rw [Bool.and_eq_true, Bool.and_eq_true, Bool.and_eq_true, decide_eq_true_eq, decide_eq_true_eq] at h
        obtain ⟨⟨h1, h2⟩, h3, h4⟩ := h
        unfold snB at h4
        unfold isNm at h2
        rw [Bool.and_eq_true, beq_iff_eq, beq_iff_eq] at h2
        rw [Bool.and_eq_true, h2.1, h2.2, beq_iff_eq] at h4
        show fsO dec pl k w (if 3 ≤ t then some (t - 3) else none) = some (x, j)
        rw [if_pos h3]
        exact h4.2
    | inr c =>
      refine key _ (fun x j h => ?_) (fun x j h => ?_)
      · have h : staL dec pl c k w = some (x, j) := h
        unfold staL at h
        obtain ⟨q, hq, e⟩ := Option.map_eq_some_iff.mp h
        obtain ⟨y1, y2⟩ := find_some hq
        have e1 := (Prod.mk.inj e).1
        have e2 := (Prod.mk.inj e).2
        rw [e1, e2] at y1
        rw [e1, e2] at y2
        rw [Bool.and_eq_true, Bool.and_eq_true] at y2
        obtain ⟨z1, z2⟩ := inLen x j y1
        refine ⟨z1, z2, ?_⟩
        unfold mP
        dsimp only
        rw [decide_eq_true y1, y2.1, y2.2.1, y2.2.2, ← e1, beq_self_eq_true]
        rfl
      · unfold mP at h
        dsimp only at h
        rw [Bool.and_eq_true, Bool.and_eq_true, Bool.and_eq_true, Bool.and_eq_true, decide_eq_true_eq, beq_iff_eq] at h
        obtain ⟨⟨h1, h2⟩, ⟨h3, h4⟩, h5⟩ := h
        show staL dec pl c k w = some (x, j)
        rw [← h3]
        unfold staL
        have hdist : distM (memsOf dec x) := by
          unfold memsOf
          cases hD : dec x with
          | none => exact fun i j hi => absurd hi (Nat.not_lt_zero i)
          | some D => exact (hO x D hD).2.2
        rw [find_eq (Q := fun M => usB pl x M && M.2.2.1) hdist h1 h2, if_pos (by rw [h5, h4]; rfl)]
        rfl
  rw [fin] at l2
  refine x_ic cd_i150_0 (z := (-1)) rfl ?_
  refine x_n cd_i150_1 rfl rfl ?_
  try dsimp only [List.set]
  refine x_ic cd_i150_3 (z := ii 0) rfl ?_
  refine x_n cd_i150_4 rfl rfl ?_
  try dsimp only [List.set]
  show am_to cd_t _ _ 150 6 _ _ _ _ _ _
  exact l2
end RM3
/-- what a reading of an expression leaves as it is -/
def CK (dep : Nat) (i i' : Nat → Int32) (a a' : Nat → Nat → Int32) : Prop := (∀ q, q ∉ [3, 4, 33, 36] → i' q = i q) ∧ (∀ k, k ≠ 23 → k ≠ 24 → a' k = a k) ∧ ∀ e, e < dep → a' 23 e = a 23 e ∧ a' 24 e = a 24 e
theorem CK.refl {dep : Nat} (i : Nat → Int32) (a : Nat → Nat → Int32) : CK dep i i a a := ⟨fun _ _ => rfl, fun _ _ _ => rfl, fun _ _ => ⟨rfl, rfl⟩⟩
theorem CK.trans {dep dep' : Nat} {i i1 i2 : Nat → Int32} {a a1 a2 : Nat → Nat → Int32} (h : CK dep i i1 a a1) (h' : CK dep' i1 i2 a1 a2) (hd : dep ≤ dep') : CK dep i i2 a a2 :=
  ⟨fun q hq => (h'.1 q hq).trans (h.1 q hq), fun k h1 h2 => (h'.2.1 k h1 h2).trans (h.2.1 k h1 h2), fun e he => ⟨((h'.2.2 e (by omega)).1).trans (h.2.2 e he).1, ((h'.2.2 e (by omega)).2).trans (h.2.2 e he).2⟩⟩
theorem CK.num {dep k : Nat} {x : Int32} (i : Nat → Int32) (a : Nat → Nat → Int32) (hk : k ∈ [3, 4, 33, 36]) : CK dep i (upd i k x) a a := ⟨fun q hq => upd_ne (fun z => hq (by rw [z]; exact hk)), fun _ _ _ => rfl, fun _ _ => ⟨rfl, rfl⟩⟩
theorem CK.same {dep : Nat} {i i' : Nat → Int32} {a : Nat → Nat → Int32} (h : M_same [3, 4] [] i i' a a) : CK dep i i' a a := ⟨fun q hq => h.1 q (fun z => hq (by simp at z ⊢; omega)), fun _ _ _ => rfl, fun _ _ => ⟨rfl, rfl⟩⟩
