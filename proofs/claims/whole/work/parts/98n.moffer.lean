/-! what the reference offers -/
def ER (i i' : Nat → Int32) (a a' : Nat → Nat → Int32) : Prop := (∀ q, q ≠ 19 → q ≠ 25 → i' q = i q) ∧ ∀ k, k < 14 ∨ 18 < k → a' k = a k
theorem ER.refl (i : Nat → Int32) (a : Nat → Nat → Int32) : ER i i a a := ⟨fun _ _ _ => rfl, fun _ _ => rfl⟩
theorem ER.trans {i i1 i2 : Nat → Int32} {a a1 a2 : Nat → Nat → Int32} (h : ER i i1 a a1) (h' : ER i1 i2 a1 a2) : ER i i2 a a2 := ⟨fun q h1 h2 => (h'.1 q h1 h2).trans (h.1 q h1 h2), fun k hk => (h'.2 k hk).trans (h.2 k hk)⟩
def stg (m : Nat) (dec : Nat → Option Dec) (pl : Int32) (O : List Ent) (σ : am_H) (i : Nat → Int32) (a : Nat → Nat → Int32) (L : List Ent) : Prop := mo σ m i a ∧ flat i a (O ++ L) ∧ i 24 = ii O.length ∧ M_cat a dec ∧ i 18 = pl ∧ L.length ≤ 8
def PA (dec : Nat → Option Dec) (pl : Int32) (K : Nat → List Ent) (c : Nat) (P0 : Tup → Prop) (q : Nat × Nat) (r : Option Ent) (A : List Ent → Prop) (σ : Tup) : Prop := P0 σ ∨ (Val dec pl K c σ ∧ σ.1 = q ∧ σ.2.1 = r ∧ A σ.2.2)
section OF
variable {cs : Nat → Value} {d m top sl : Nat} {dec : Nat → Option Dec} {pl : Int32} {K : Nat → List Ent} {c : Nat} {rk : Nat → Nat} {O : List Ent}
theorem Val.cst {τ : Tup} (hO : catOk dec) (hr : ranked dec rk) (hK : Kok K c) (h : Val dec pl K c τ) : cst (txT dec τ) = c := by
  have w := h.wf hO hr hK
  rw [cst_tx w]
  have h5 := h.2.2.2.2
  split
  · next z =>
    have hl0 : τ.2.2.length = 0 := by rw [w.2.2.2.2, w.1.2.2.2.2.2.2.2 z]; rfl
    rw [List.length_eq_zero_iff.mp hl0] at h5
    exact h5
  · exact h5
theorem Val.let {τ : Tup} (hO : catOk dec) (hr : ranked dec rk) (hK : Kok K c) (h : Val dec pl K c τ) : ∀ x ∈ txT dec τ, 0 < x ∧ x < 127 := tx_let (h.wf hO hr hK) (fun u hu => by
    have h2 := h.2.1
    rw [hu] at h2
    exact (h2.1.good hK).2.2.2) (fun u hu => ((h.2.2.1 u hu).good hK).2.2.2)
theorem stg.rows {σ : am_H} {i : Nat → Int32} {a : Nat → Nat → Int32} {L : List Ent} (h : stg m dec pl O σ i a L) : ∀ e, e < O.length → krow a e (O.getD e default) := by
  intro e he
  have := h.2.1.2.2 e (by rw [List.length_append]; omega)
  rw [List.getD_eq_getElem?_getD, List.getElem?_append_left he, ← List.getD_eq_getElem?_getD] at this
  exact this
theorem ins_len {L : List Ent} {e : Ent} (h : L.length ≤ 8) : (ins L e).length ≤ 8 := by
  unfold ins
  split
  · rw [List.length_take]
    omega
  · exact h
/-- one offer that is valid -/
theorem m_offer_keep {σ : am_H} {i : Nat → Int32} {a : Nat → Nat → Int32} {L : List Ent} {x j : Nat} {D : Dec} {r u v : Option Nat} {v4 v5 v6 v7 v8 v10 v11 : Value} {P : Tup → Prop} (hd : 2 < d) (hO : catOk dec) (hrk : ranked dec rk) (hK : Kok K c) (hO24 : O.length ≤ 24) (hS : stg m dec pl O σ i a L) (hD : dec x = some D) (hj : j < D.2.length) (hr : ∀ e, r = some e → e < O.length) (hu : ∀ e, u = some e → e < O.length) (hv : ∀ e, v = some e → e < O.length ∧ u ≠ none) (hP : ∀ σ, P σ → Val dec pl K c σ) (hL : L8 (ImT dec P) L)
    (hV : Val dec pl K c ((x, j), r.map (fun e => O.getD e default), (u.toList ++ v.toList).map (fun e => O.getD e default))) (hn : ¬ P ((x, j), r.map (fun e => O.getD e default), (u.toList ++ v.toList).map (fun e => O.getD e default))) :
    ∃ (σ' : am_H) (i' : Nat → Int32) (a' : Nat → Nat → Int32) (L' : List Ent), stg m dec pl O σ' i' a' L' ∧ ER i i' a a' ∧ L8 (ImT dec (fun σ => P σ ∨ σ = ((x, j), r.map (fun e => O.getD e default), (u.toList ++ v.toList).map (fun e => O.getD e default)))) L' ∧ (∀ y, y < m ∨ m + 25 ≤ y → σ' y = σ y) ∧
      ∀ res, am_to cd_t cs d 139 213 [some (.ref m), some (.int (ii (6 * x + j))), some (.int (oi r)), some (.int (ii c)), some v4, some v5, some v6, some v7, some v8, some (.int (oi u)), some v10, some v11, some (.int (oi v))] [] σ' top sl res → am_to cd_t cs d 139 192 [some (.ref m), some (.int (ii (6 * x + j))), some (.int (oi r)), some (.int (ii c)), some v4, some v5, some v6, some v7, some v8, some (.int (oi u)), some v10, some v11, some (.int (oi v))] [] σ top sl res := by
  obtain ⟨hM, hF, h24, hC, hpl, hL8⟩ := id hS
  have hx := (hrk x D hD).1
  have hok := (hO x D hD).2.1 _ (getD_mem hj)
  have h6 := (hO x D hD).1
  obtain ⟨q1, q2, q3, q4, q5⟩ := (hC x hx).2 D hD
  have em : memQ dec (x, j) = D.2.getD j default := by unfold memQ memsOf; rw [hD]
  have hwf := hV.wf hO hrk hK
  obtain ⟨s1, i1, a1, b1, b2, b3, b4, b5⟩ := m_make (cs := cs) (d := d - 1) (top := top) (sl := sl) (r := r) (u := u) (v := v) (by omega) hM (q5 j hj) hx (by omega) hok (by omega) hS.rows (fun e he => ⟨hr e he, by
    have := (hwf.2.2.1 (O.getD e default) (by show r.map _ = _; rw [he]; rfl)).2
    rw [show memQ dec ((x, j), r.map (fun e => O.getD e default), (u.toList ++ v.toList).map (fun e => O.getD e default)).1 = D.2.getD j default from em] at this
    exact this⟩) hu hv
  have etx : preT (D.2.getD j default) (x, j) (r.map fun e => O.getD e default) ++ tailT (D.2.getD j default) ((u.toList ++ v.toList).map fun e => O.getD e default) = txT dec ((x, j), r.map (fun e => O.getD e default), (u.toList ++ v.toList).map (fun e => O.getD e default)) := by
    unfold txT
    rw [show memQ dec ((x, j), r.map (fun e => O.getD e default), (u.toList ++ v.toList).map (fun e => O.getD e default)).1 = D.2.getD j default from em]
  rw [etx] at b3
  generalize hτ : ((x, j), r.map (fun e => O.getD e default), (u.toList ++ v.toList).map (fun e => O.getD e default)) = τ at *
  have hty : tyT dec τ = (D.2.getD j default).2.2.2.2.2 := by
    unfold tyT
    rw [← hτ]
    show (memQ dec (x, j)).2.2.2.2.2 = _
    rw [em]
  have hcst := hV.cst hO hrk hK
  have F1 : flat i1 a1 (O ++ L) := by
    refine ⟨(b4.1 19 (by decide)).trans hF.1, hF.2.1, fun e he => ?_⟩
    have := hF.2.2 e he
    unfold krow at this ⊢
    rw [b4.2 14 (by decide), b4.2 15 (by decide), b4.2 16 (by decide), b4.2 17 (by decide)]
    exact this
  obtain ⟨s2, i2, a2, c1, c2, c3, c4, c5, c6⟩ := m_keep (cs := cs) (d := d - 1) (top := top) (sl := sl) (t := tyT dec τ) (by omega) b2 F1 ((b4.1 24 (by decide)).trans h24) hO24 hL8 b3 (hV.let hO hrk hK)
  rw [hcst] at c1
  have er : ER i i2 a a2 := ⟨fun q h1 h2 => (c4 q h1).trans (b4.1 q h2), fun k hk => (c5 k (by omega)).trans (b4.2 k (by omega))⟩
  refine ⟨s2, i2, a2, ins L (txT dec τ, tyT dec τ), ⟨c2, c3, (er.1 24 (by decide) (by decide)).trans h24, hC.eq (fun k hk => er.2 k (by omega)), (er.1 18 (by decide) (by decide)).trans hpl, ins_len hL8⟩, er, L8_step hO hrk hK hP hV hn hL, fun y hy => (c6 y hy).trans (b5 y hy), fun res hh => ?_⟩
  have h9 := (q5 j hj).2.2.2.2.1
  refine x_n cd_i139_192 rfl rfl ?_
  refine x_n cd_i139_193 rfl rfl ?_
  refine x_n cd_i139_194 rfl rfl ?_
  refine x_n cd_i139_195 rfl rfl ?_
  refine x_n cd_i139_197 rfl rfl ?_
  show am_to cd_t _ _ 139 199 _ _ _ _ _ _
  refine x_callv (as' := [.int (ii (6 * x + j)), .int (oi r), .int (oi u), .int (oi v)]) (r := none) cd_i139_199 hM.1 (by omega) rfl rfl rfl rfl rfl rfl (b1) ?_
  refine x_n cd_i139_202 rfl rfl ?_
  refine x_n cd_i139_203 rfl rfl ?_
  refine x_n cd_i139_204 rfl rfl ?_
  refine x_getf cd_i139_205 b2.1 rfl rfl ?_
  refine x_n cd_i139_208 rfl rfl ?_
  show am_to cd_t _ _ 139 209 _ _ _ _ _ _
  refine x_iald (z := ii (tyT dec τ)) cd_i139_209 (b2.2 9 (by decide) (by decide)) (show 6 * x + j < 66 by omega) (by decide) (by rw [b4.2 9 (by decide), h9, hty]) ?_
  refine x_callv (as' := [.int (ii c), .int (ii (tyT dec τ))]) (r := none) cd_i139_210 b2.1 (by omega) rfl rfl rfl rfl rfl rfl (c1) ?_
  exact hh
end OF
