section MVV
variable {cs : Nat → Value} {d m top sl : Nat} {σ : am_H} {i : Nat → Int32} {a : Nat → Nat → Int32} {txt : List Nat} {vs : List (List Nat × Nat)}
theorem varT_none {w : List Nat} (hw : ∀ c ∈ w, 97 ≤ c ∧ c ≤ 122) (hS : M_sco i a vs) : varT vs w = none ↔ ∀ k, k < vs.length → n27 (vs.getD k default).1 ≠ n27 w := by
  have hg : ∀ k, (h : k < vs.length) → vs.getD k default = vs[k] := fun k h => by rw [List.getD_eq_getElem?_getD, List.getElem?_eq_getElem h]; rfl
  unfold varT
  rw [Option.map_eq_none_iff, List.find?_eq_none]
  constructor
  · intro h k hk e
    have hm := List.getElem_mem hk
    rw [hg k hk] at e
    exact h vs[k] hm (beq_iff_eq.mpr (n27_inj (hS.2.2.1 _ hm).1 hw e))
  · intro h q hq e
    obtain ⟨k, hk, rfl⟩ := List.getElem_of_mem hq
    have := h k hk
    rw [hg k hk, beq_iff_eq.mp e] at this
    exact this rfl
end MVV
