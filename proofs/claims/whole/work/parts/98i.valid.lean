/-! the tuples of a cost -/
def tyT (dec : Nat → Option Dec) (τ : Tup) : Nat := (memQ dec τ.1).2.2.2.2.2
def Kok (K : Nat → List Ent) (c : Nat) : Prop := ∀ k, k < c → srt (K k) ∧ (K k).length ≤ 8 ∧ ∀ e ∈ K k, GT e.1 ∧ cst e.1 = k ∧ e.2 < 13 ∧ e.1.length ≤ 24 ∧ ∀ x ∈ e.1, 0 < x ∧ x < 127
def fitsL (dec : Nat → Option Dec) : List Ent → List Nat → Prop
  | [], [] => True
  | u :: as, w :: ts => fitB dec u.2 w = true ∧ fitsL dec as ts
  | _, _ => False
theorem fitsL_len {dec : Nat → Option Dec} : ∀ {as : List Ent} {ts : List Nat}, fitsL dec as ts → as.length = ts.length
  | [], [], _ => rfl
  | [], _ :: _, h => absurd h id
  | _ :: _, [], h => absurd h id
  | u :: as, w :: ts, h => by rw [List.length_cons, List.length_cons, fitsL_len h.2]
def inK (K : Nat → List Ent) (c : Nat) (e : Ent) : Prop := cst e.1 < c ∧ e ∈ K (cst e.1)
def Val (dec : Nat → Option Dec) (pl : Int32) (K : Nat → List Ent) (c : Nat) (τ : Tup) : Prop := (∃ D, dec τ.1.1 = some D ∧ τ.1.2 < D.2.length) ∧
  (match τ.2.1 with
  | none => ((memQ dec τ.1).2.2.1 = true ∨ (memQ dec τ.1).1 = 2) ∧ usB pl τ.1.1 (memQ dec τ.1) = true
  | some e => inK K c e ∧ 3 ≤ e.2 ∧ snB dec pl (e.2 - 3) τ.1.1 τ.1.2 = true) ∧
  (∀ u ∈ τ.2.2, inK K c u) ∧ fitsL dec τ.2.2 (memQ dec τ.1).2.2.2.2.1 ∧ 1 + recC τ.2.1 + sumC τ.2.2 = c
section VT
variable {dec : Nat → Option Dec} {pl : Int32} {K : Nat → List Ent} {c : Nat} {rk : Nat → Nat} {τ τ' : Tup}
theorem inK.uni {e e' : Ent} (hK : Kok K c) (h : inK K c e) (h' : inK K c e') (he : e.1 = e'.1) : e = e' := by
  have hs := (hK _ h.1).1
  have m1 := h.2
  have m2 := h'.2
  rw [← he] at m2
  generalize K (cst e.1) = L at hs m1 m2
  induction L with
  | nil => cases m1
  | cons a L ih =>
    obtain ⟨a1, a2⟩ := List.pairwise_cons.mp hs
    rcases List.mem_cons.mp m1 with x1 | x1
    · rcases List.mem_cons.mp m2 with x2 | x2
      · rw [x1, x2]
      · have := a1 e' x2
        rw [← x1, he, ltT_irr] at this
        cases this
    · rcases List.mem_cons.mp m2 with x2 | x2
      · have := a1 e x1
        rw [← x2, he, ltT_irr] at this
        cases this
      · exact ih a2 x1 x2
theorem inK.good {e : Ent} (hK : Kok K c) (h : inK K c e) : GT e.1 ∧ e.2 < 13 ∧ e.1.length ≤ 24 ∧ ∀ x ∈ e.1, 0 < x ∧ x < 127 := by
  obtain ⟨h1, h2, h3, h4, h5⟩ := (hK _ h.1).2.2 e h.2
  exact ⟨h1, h3, h4, h5⟩
theorem Val.wf (hO : catOk dec) (hr : ranked dec rk) (hK : Kok K c) (h : Val dec pl K c τ) : WF dec τ := by
  obtain ⟨⟨D, hD, hj⟩, h2, h3, h4, h5⟩ := h
  have em : memQ dec τ.1 = D.2.getD τ.1.2 default := by unfold memQ memsOf; rw [hD]
  refine ⟨by rw [em]; exact (hO _ D hD).2.1 _ (getD_mem hj), (hr _ D hD).1, fun e he => ?_, fun u hu => ((h3 u hu).good hK).1, fitsL_len h4⟩
  rw [he] at h2
  refine ⟨(h2.1.good hK).1, fun z => ?_⟩
  have h2s : snB dec pl (e.2 - 3) τ.1.1 τ.1.2 = true := h2.2.2
  have e2 : (memsOf dec τ.1.1).getD τ.1.2 default = memQ dec τ.1 := rfl
  unfold snB at h2s
  rw [e2, z] at h2s
  cases h2s
theorem maps_eq {as as' : List Ent} (hK : Kok K c) (h : ∀ u ∈ as, inK K c u) (h' : ∀ u ∈ as', inK K c u) (e : as.map (fun u => u.1) = as'.map (fun u => u.1)) : as = as' := by
  induction as generalizing as' with
  | nil =>
    cases as' with
    | nil => rfl
    | cons _ _ => cases e
  | cons u as ih =>
    cases as' with
    | nil => cases e
    | cons u' as' =>
      have e := List.cons.inj e
      rw [(h u List.mem_cons_self).uni hK (h' u' List.mem_cons_self) e.1, ih (fun y hy => h y (List.mem_cons_of_mem _ hy)) (fun y hy => h' y (List.mem_cons_of_mem _ hy)) e.2]
theorem Val.inj (hO : catOk dec) (hr : ranked dec rk) (hK : Kok K c) (h : Val dec pl K c τ) (h' : Val dec pl K c τ') (e : txT dec τ = txT dec τ') : τ = τ' := by
  have w := h.wf hO hr hK
  have w' := h'.wf hO hr hK
  obtain ⟨i1, i2, i3, i4, i5⟩ := tx_inj w w' e
  obtain ⟨⟨D, hD, hj⟩, h2, h3, h4, h5⟩ := h
  obtain ⟨⟨D', hD', hj'⟩, h2', h3', h4', h5'⟩ := h'
  obtain ⟨⟨x, j⟩, r, as⟩ := τ
  obtain ⟨⟨x', j'⟩, r', as'⟩ := τ'
  have hD : dec x = some D := hD
  have hj : j < D.2.length := hj
  have hD' : dec x' = some D' := hD'
  have hj' : j' < D'.2.length := hj'
  have em : memQ dec (x, j) = D.2.getD j default := by unfold memQ memsOf; rw [hD]
  have em' : memQ dec (x', j') = D'.2.getD j' default := by unfold memQ memsOf; rw [hD']
  have hrr : r = r' := by
    have i3 : r.map (fun u => u.1) = r'.map (fun u => u.1) := i3
    cases r with
    | none =>
      cases r' with
      | none => rfl
      | some u' => cases i3
    | some u =>
      cases r' with
      | none => cases i3
      | some u' =>
        have i3 := Option.some.inj i3
        rw [h2.1.uni hK h2'.1 i3]
  have hq : (x, j) = (x', j') := by
    have i1 : (memQ dec (x, j)).1 = (memQ dec (x', j')).1 := i1
    have i2 : (memQ dec (x, j)).2.2.2.1 = (memQ dec (x', j')).2.2.2.1 := i2
    cases hr0 : r with
    | none =>
      have hx : x = x' := i4 hr0
      subst hx
      have hDD : D = D' := by rw [hD] at hD'; exact Option.some.inj hD'
      subst hDD
      rw [em, em'] at i1 i2
      rw [(hO x D hD).2.2 j j' hj hj' i1 i2]
    | some u =>
      rw [← hrr, hr0] at h2'
      rw [hr0] at h2
      have s1 : snB dec pl (u.2 - 3) x j = true := h2.2.2
      have s2 : snB dec pl (u.2 - 3) x' j' = true := h2'.2.2
      unfold snB at s1 s2
      rw [Bool.and_eq_true, beq_iff_eq] at s1 s2
      have e1 : (memsOf dec x).getD j default = memQ dec (x, j) := rfl
      have e2 : (memsOf dec x').getD j' default = memQ dec (x', j') := rfl
      have t1 := s1.2
      have t2 := s2.2
      rw [e1, i1, i2] at t1
      rw [e2, t1] at t2
      exact Option.some.inj t2
  have hla : as.length = as'.length := by
    rw [fitsL_len h4, fitsL_len h4']
    show (memQ dec (x, j)).2.2.2.2.1.length = (memQ dec (x', j')).2.2.2.2.1.length
    rw [hq]
  have has : as = as' := by
    by_cases z : (memQ dec (x, j)).1 = 0
    · have l0 : as.length = 0 := by
        rw [fitsL_len h4]
        show (memQ dec (x, j)).2.2.2.2.1.length = 0
        rw [w.1.2.2.2.2.2.2.2 z]
        rfl
      rw [List.length_eq_zero_iff.mp l0, List.length_eq_zero_iff.mp (show as'.length = 0 by omega)]
    · exact maps_eq hK h3 h3' (i5 hla z)
  rw [hq, hrr, has]
def ImT (dec : Nat → Option Dec) (P : Tup → Prop) (e : Ent) : Prop := ∃ τ, P τ ∧ e = (txT dec τ, tyT dec τ)
theorem L8_step {P : Tup → Prop} {L : List Ent} (hO : catOk dec) (hr : ranked dec rk) (hK : Kok K c) (hP : ∀ σ, P σ → Val dec pl K c σ) (h : Val dec pl K c τ) (hn : ¬ P τ) (hL : L8 (ImT dec P) L) : L8 (ImT dec (fun σ => P σ ∨ σ = τ)) (ins L (txT dec τ, tyT dec τ)) := by
  refine L8_iff (L8_ins hL (fun x hx z => ?_)) (fun x => ?_)
  · obtain ⟨σ, hσ, e⟩ := hx
    rw [e] at z
    have := (hP σ hσ).inj hO hr hK h z
    exact hn (by rw [← this]; exact hσ)
  · constructor
    · rintro (⟨σ, hσ, e⟩ | e)
      · exact ⟨σ, Or.inl hσ, e⟩
      · exact ⟨τ, Or.inr rfl, e⟩
    · rintro ⟨σ, hσ | hσ, e⟩
      · exact Or.inl ⟨σ, hσ, e⟩
      · rw [hσ] at e
        exact Or.inr e
theorem ImT_iff {P Q : Tup → Prop} {L : List Ent} (h : L8 (ImT dec P) L) (hPQ : ∀ σ, P σ ↔ Q σ) : L8 (ImT dec Q) L :=
  L8_iff h (fun x => ⟨fun ⟨σ, hσ, e⟩ => ⟨σ, (hPQ σ).mp hσ, e⟩, fun ⟨σ, hσ, e⟩ => ⟨σ, (hPQ σ).mpr hσ, e⟩⟩)
theorem ImT_prune {P N : Tup → Prop} {L : List Ent} (h : L8 (ImT dec P) L) (hN : ∀ σ, N σ → 24 < (txT dec σ).length ∨ (L.length = 8 ∧ ∀ y ∈ L, ltT y.1 (txT dec σ) = true)) : L8 (ImT dec (fun σ => P σ ∨ N σ)) L := by
  refine L8_iff (L8_prune (N := ImT dec N) h (fun x ⟨σ, hσ, e⟩ => ?_)) (fun x => ?_)
  · rw [e]
    exact hN σ hσ
  · constructor
    · rintro (⟨σ, hσ, e⟩ | ⟨σ, hσ, e⟩)
      · exact ⟨σ, Or.inl hσ, e⟩
      · exact ⟨σ, Or.inr hσ, e⟩
    · rintro ⟨σ, hσ | hσ, e⟩
      · exact Or.inl ⟨σ, hσ, e⟩
      · exact Or.inr ⟨σ, hσ, e⟩
/-- letters of a new text -/
theorem argT_let : ∀ (as : List Ent), (∀ u ∈ as, ∀ x ∈ u.1, 0 < x ∧ x < 127) → ∀ x ∈ argT as, 0 < x ∧ x < 127
  | [], _, x, hx => by cases hx
  | [u], h, x, hx => h u List.mem_cons_self x hx
  | u :: v :: r, h, x, hx => by
    rw [argT, List.mem_append, List.mem_cons] at hx
    rcases hx with hx | hx | hx
    · exact h u List.mem_cons_self x hx
    · rw [hx]; decide
    · exact argT_let (v :: r) (fun y hy => h y (List.mem_cons_of_mem _ hy)) x hx
theorem tx_let (h : WF dec τ) (hr : ∀ e, τ.2.1 = some e → ∀ x ∈ e.1, 0 < x ∧ x < 127) (ha : ∀ u ∈ τ.2.2, ∀ x ∈ u.1, 0 < x ∧ x < 127) : ∀ x ∈ txT dec τ, 0 < x ∧ x < 127 := by
  intro x hx
  have hx10 := h.2.1
  unfold txT preT tailT frontT at hx
  rw [List.mem_append] at hx
  rcases hx with hx | hx
  · split at hx
    · rw [List.mem_append, List.mem_singleton] at hx
      rcases hx with hx | hx
      · revert x
        decide
      · omega
    · rw [List.mem_append, List.mem_cons] at hx
      rcases hx with hx | hx | hx
      · cases hr0 : τ.2.1 with
        | none =>
          rw [hr0] at hx
          have := List.mem_singleton.mp hx
          omega
        | some e =>
          rw [hr0] at hx
          exact hr e hr0 x hx
      · omega
      · have := h.1.2.1.1 x hx
        omega
  · split at hx
    · cases hx
    · rw [List.mem_append, List.mem_cons, List.mem_singleton] at hx
      rcases hx with (hx | hx) | hx
      · omega
      · exact argT_let τ.2.2 ha x hx
      · omega
/-- what the next shelf is like -/
theorem Kok_next {L : List Ent} (hO : catOk dec) (hr : ranked dec rk) (hK : Kok K c) (hL : L8 (ImT dec (Val dec pl K c)) L) (e : K c = L) : Kok K (c + 1) := by
  intro k hk
  by_cases hkc : k < c
  · exact hK k hkc
  · have : k = c := by omega
    rw [this, e]
    refine ⟨hL.1, hL.2.1, fun x hx => ?_⟩
    obtain ⟨⟨σ, hσ, ex⟩, hl⟩ := hL.2.2.1 x hx
    have w := hσ.wf hO hr hK
    rw [ex] at hl ⊢
    refine ⟨tx_good w, ?_, w.1.2.2.2.2.2.2.1, hl, tx_let w (fun u hu => ?_) (fun u hu => ((hσ.2.2.1 u hu).good hK).2.2.2)⟩
    · show cst (txT dec σ) = c
      rw [cst_tx w]
      have h5 := hσ.2.2.2.2
      split
      · next z =>
        have hl0 : σ.2.2.length = 0 := by rw [w.2.2.2.2, w.1.2.2.2.2.2.2.2 z]; rfl
        rw [List.length_eq_zero_iff.mp hl0] at h5
        exact h5
      · exact h5
    · have h2 := hσ.2.1
      rw [hu] at h2
      exact (h2.1.good hK).2.2.2
end VT
