section OB
variable {cs : Nat → Value} {d m top sl : Nat} {dec : Nat → Option Dec} {pl : Int32} {K : Nat → List Ent} {c : Nat} {rk : Nat → Nat} {O : List Ent}
theorem sumC_two {f : Nat → Ent} (u v : Option Nat) : sumC ((u.toList ++ v.toList).map f) = recC (u.map f) + recC (v.map f) := by
  cases u with
  | none =>
    cases v with
    | none => rfl
    | some e' =>
      show cst (f e').1 + 0 = 0 + cst (f e').1
      omega
  | some e =>
    cases v with
    | none => rfl
    | some e' =>
      show cst (f e).1 + (cst (f e').1 + 0) = cst (f e).1 + cst (f e').1
      omega
theorem fits_two {f : Nat → Ent} {ps : List Nat} {u v : Option Nat} (hl : ps.length ≤ 2) (hu : u.isSome = decide (0 < ps.length)) (hv : v.isSome = decide (1 < ps.length)) : fitsL dec ((u.toList ++ v.toList).map f) ps ↔ (∀ e, u = some e → fitB dec (f e).2 (ps.getD 0 0) = true) ∧ (∀ e, v = some e → fitB dec (f e).2 (ps.getD 1 0) = true) := by
  cases ps with
  | nil =>
    cases u with
    | none =>
      cases v with
      | none => exact ⟨fun _ => ⟨(fun e h => by cases h), (fun e h => by cases h)⟩, fun _ => trivial⟩
      | some e => cases hv
    | some e => cases hu
  | cons w ps =>
    cases u with
    | none => simp at hu
    | some e =>
      cases ps with
      | nil =>
        cases v with
        | none => exact ⟨fun h => ⟨(fun e' h' => by rw [← Option.some.inj h']; exact h.1), (fun e h => by cases h)⟩, fun h => ⟨h.1 e rfl, trivial⟩⟩
        | some e' => simp at hv
      | cons w' ps =>
        cases ps with
        | nil =>
          cases v with
          | none => simp at hv
          | some e' => exact ⟨fun h => ⟨(fun a ha => by rw [← Option.some.inj ha]; exact h.1), (fun a ha => by rw [← Option.some.inj ha]; exact h.2.1)⟩, fun h => ⟨h.1 e rfl, h.2 e' rfl, trivial⟩⟩
        | cons _ _ => simp at hl
/-- one choice of arguments -/
theorem m_offer_body {σ : am_H} {i : Nat → Int32} {a : Nat → Nat → Int32} {L : List Ent} {x j left jj : Nat} {D : Dec} {r u v : Option Nat} {v4 v6 v7 v8 v10 : Value} {v12 : Option Value} {P0 : Tup → Prop} {A : List Ent → Prop} (hd : 3 < d) (hO : catOk dec) (hrk : ranked dec rk) (hK : Kok K c) (hO24 : O.length ≤ 24) (hS : stg m dec pl O σ i a L) (hD : dec x = some D) (hj : j < D.2.length) (hr : ∀ e, r = some e → e < O.length) (hu : ∀ e, u = some e → e < O.length) (hus : u.isSome = decide (0 < (D.2.getD j default).2.2.2.2.1.length)) (hv : v = if 1 < (D.2.getD j default).2.2.2.2.1.length then some jj else none) (hvO : ∀ e, v = some e → e < O.length) (hjj : jj < 100) (hc4 : c < 4)
    (hin : ∀ e, e < O.length → inK K c (O.getD e default)) (hrec : match (r.map fun e => O.getD e default) with | none => ((memQ dec (x, j)).2.2.1 = true ∨ (memQ dec (x, j)).1 = 2) ∧ usB pl x (memQ dec (x, j)) = true | some e => inK K c e ∧ 3 ≤ e.2 ∧ snB dec pl (e.2 - 3) x j = true) (hleft : 1 + recC (r.map fun e => O.getD e default) + left = c) (hfit : ∀ e, u = some e → fitB dec (O.getD e default).2 ((D.2.getD j default).2.2.2.2.1.getD 0 0) = true)
    (hP0 : ∀ σ, P0 σ → Val dec pl K c σ ∧ ¬ (σ.1 = (x, j) ∧ σ.2.1 = r.map fun e => O.getD e default)) (hA : ¬ A ((u.toList ++ v.toList).map fun e => O.getD e default)) (hL : L8 (ImT dec (PA dec pl K c P0 (x, j) (r.map fun e => O.getD e default) A)) L) :
    ∃ (σ' : am_H) (i' : Nat → Int32) (a' : Nat → Nat → Int32) (L' : List Ent), stg m dec pl O σ' i' a' L' ∧ ER i i' a a' ∧ L8 (ImT dec (PA dec pl K c P0 (x, j) (r.map fun e => O.getD e default) (fun s => A s ∨ s = (u.toList ++ v.toList).map fun e => O.getD e default))) L' ∧ (∀ y, y < m ∨ m + 25 ≤ y → σ' y = σ y) ∧
      ∀ res, am_to cd_t cs d 139 213 [some (.ref m), some (.int (ii (6 * x + j))), some (.int (oi r)), some (.int (ii c)), some v4, some (.int (ii left)), some v6, some v7, some v8, some (.int (oi u)), some v10, some (.int (ii jj)), some (.int (oi v))] [] σ' top sl res → am_to cd_t cs d 139 123 [some (.ref m), some (.int (ii (6 * x + j))), some (.int (oi r)), some (.int (ii c)), some v4, some (.int (ii left)), some v6, some v7, some v8, some (.int (oi u)), some v10, some (.int (ii jj)), v12] [] σ top sl res := by
  obtain ⟨hM, hF, h24, hC, hpl, hL8⟩ := id hS
  have hx := (hrk x D hD).1
  have hok := (hO x D hD).2.1 _ (getD_mem hj)
  have h6 := (hO x D hD).1
  have hl2 := hok.2.2.2.2.1
  obtain ⟨q1, q2, q3, q4, q5⟩ := (hC x hx).2 D hD
  have hrow := q5 j hj
  have em : memQ dec (x, j) = D.2.getD j default := by unfold memQ memsOf; rw [hD]
  have hvs : v.isSome = decide (1 < (D.2.getD j default).2.2.2.2.1.length) := by
    rw [hv]
    by_cases h : 1 < (D.2.getD j default).2.2.2.2.1.length
    · rw [if_pos h, decide_eq_true h]
      rfl
    · rw [if_neg h, decide_eq_false h]
      rfl
  have hvu : ∀ e, v = some e → e < O.length ∧ u ≠ none := fun e he => ⟨hvO e he, fun hn => by
    rw [hn] at hus
    rw [he] at hvs
    have h1 := of_decide_eq_true hvs.symm
    have h2 := of_decide_eq_false hus.symm
    omega⟩
  have hcu := m_costOf (cs := cs) (d := d - 1) (top := top) (sl := sl) (o := u) hM hS.rows (by omega) hu
  have hcv := m_costOf (cs := cs) (d := d - 1) (top := top) (sl := sl) (o := v) hM hS.rows (by omega) hvO
  have hval : Val dec pl K c ((x, j), r.map (fun e => O.getD e default), (u.toList ++ v.toList).map (fun e => O.getD e default)) ↔ (recC (u.map fun e => O.getD e default) + recC (v.map fun e => O.getD e default) = left ∧ ∀ e, v = some e → fitB dec (O.getD e default).2 ((D.2.getD j default).2.2.2.2.1.getD 1 0) = true) := by
    constructor
    · rintro ⟨-, -, -, h4, h5⟩
      have h4' : fitsL dec ((u.toList ++ v.toList).map (fun e => O.getD e default)) (D.2.getD j default).2.2.2.2.1 := by
        have h4 : fitsL dec ((u.toList ++ v.toList).map (fun e => O.getD e default)) (memQ dec (x, j)).2.2.2.2.1 := h4
        rw [em] at h4
        exact h4
      have h5 : 1 + recC (r.map fun e => O.getD e default) + sumC ((u.toList ++ v.toList).map (fun e => O.getD e default)) = c := h5
      rw [sumC_two] at h5
      exact ⟨by omega, ((fits_two hl2 hus hvs).mp h4').2⟩
    · rintro ⟨h1, h2⟩
      refine ⟨⟨D, hD, hj⟩, hrec, fun w hw => ?_, ?_, ?_⟩
      · obtain ⟨e, he, e'⟩ := List.mem_map.mp hw
        rw [← e']
        refine hin e ?_
        rw [List.mem_append, Option.mem_toList, Option.mem_toList] at he
        rcases he with he | he
        · exact hu e he
        · exact hvO e he
      · show fitsL dec ((u.toList ++ v.toList).map (fun e => O.getD e default)) (memQ dec (x, j)).2.2.2.2.1
        rw [em]
        exact (fits_two hl2 hus hvs).mpr ⟨hfit, h2⟩
      · show 1 + recC (r.map fun e => O.getD e default) + sumC ((u.toList ++ v.toList).map (fun e => O.getD e default)) = c
        rw [sumC_two]
        omega
  have small : recC (u.map fun e => O.getD e default) + recC (v.map fun e => O.getD e default) < 1000 := by
    have h : ∀ o : Option Nat, (∀ e, o = some e → e < O.length) → recC (o.map fun e => O.getD e default) ≤ 24 := by
      intro o ho
      cases o with
      | none => exact Nat.zero_le _
      | some e =>
        have := ((hin e (ho e rfl)).good hK).2.2.1
        show cst _ ≤ 24
        unfold cst
        exact Nat.le_trans List.countP_le_length this
    have := h u hu
    have := h v hvO
    omega
  have skip : ¬ Val dec pl K c ((x, j), r.map (fun e => O.getD e default), (u.toList ++ v.toList).map (fun e => O.getD e default)) → L8 (ImT dec (PA dec pl K c P0 (x, j) (r.map fun e => O.getD e default) (fun s => A s ∨ s = (u.toList ++ v.toList).map fun e => O.getD e default))) L := by
    intro hno
    refine ImT_iff hL (fun s => ?_)
    constructor
    · rintro (h | ⟨h1, h2, h3, h4⟩)
      · exact Or.inl h
      · exact Or.inr ⟨h1, h2, h3, Or.inl h4⟩
    · rintro (h | ⟨h1, h2, h3, h4 | h4⟩)
      · exact Or.inl h
      · exact Or.inr ⟨h1, h2, h3, h4⟩
      · refine absurd ?_ hno
        rw [← h2, ← h3, ← h4]
        exact h1
  have go1 : ∀ res, am_to cd_t cs d 139 156 [some (.ref m), some (.int (ii (6 * x + j))), some (.int (oi r)), some (.int (ii c)), some v4, some (.int (ii left)), some v6, some v7, some v8, some (.int (oi u)), some v10, some (.int (ii jj)), some (.int (oi v))] [.int (ii left), .int (ii (recC (u.map fun e => O.getD e default) + recC (v.map fun e => O.getD e default)))] σ top sl res → am_to cd_t cs d 139 123 [some (.ref m), some (.int (ii (6 * x + j))), some (.int (oi r)), some (.int (ii c)), some v4, some (.int (ii left)), some v6, some v7, some v8, some (.int (oi u)), some v10, some (.int (ii jj)), v12] [] σ top sl res := by
    intro res hh
    have fin : am_to cd_t cs d 139 139 [some (.ref m), some (.int (ii (6 * x + j))), some (.int (oi r)), some (.int (ii c)), some v4, some (.int (ii left)), some v6, some v7, some v8, some (.int (oi u)), some v10, some (.int (ii jj)), v12] [.int (oi v)] σ top sl res := by
      refine x_n cd_i139_139 rfl rfl ?_
      try dsimp only [List.set]
      refine x_n cd_i139_141 rfl rfl ?_
      refine x_n cd_i139_142 rfl rfl ?_
      show am_to cd_t _ _ 139 144 _ _ _ _ _ _
      refine x_callv (as' := [.int (oi u)]) cd_i139_144 hM.1 (by omega) rfl rfl rfl rfl rfl rfl (hcu) ?_
      refine x_n cd_i139_147 rfl rfl ?_
      refine x_n cd_i139_148 rfl rfl ?_
      show am_to cd_t _ _ 139 150 _ _ _ _ _ _
      refine x_callv (as' := [.int (oi v)]) cd_i139_150 hM.1 (by omega) rfl rfl rfl rfl rfl rfl (hcv) ?_
      refine x_iadd cd_i139_153 (ii_add _ _) ?_
      refine x_n cd_i139_154 rfl rfl ?_
      show am_to cd_t _ _ 139 156 _ _ _ _ _ _
      exact hh
    refine x_n cd_i139_123 rfl rfl ?_
    refine x_getf cd_i139_124 hM.1 rfl rfl ?_
    refine x_n cd_i139_127 rfl rfl ?_
    show am_to cd_t _ _ 139 128 _ _ _ _ _ _
    refine x_iald cd_i139_128 (hM.2 10 (by decide) (by decide)) (show _ < 66 by omega) (by decide) (hrow.2.2.2.2.2.1) ?_
    refine x_ic cd_i139_129 (z := ii 1) rfl ?_
    show am_to cd_t _ _ 139 130 _ _ _ _ _ _
    by_cases h1 : 1 < (D.2.getD j default).2.2.2.2.1.length
    · rw [if_pos h1] at hv
      rw [hv] at fin
      refine x_icmp_f cd_i139_130 (fun z => by have := (ii_le (by omega) (by decide)).mp (show ii (D.2.getD j default).2.2.2.2.1.length ≤ ii 1 from z); omega) ?_
      refine x_n cd_i139_133 rfl rfl ?_
      refine x_n cd_i139_135 rfl rfl ?_
      show am_to cd_t _ _ 139 139 _ _ _ _ _ _
      exact fin
    · rw [if_neg h1] at hv
      rw [hv] at fin
      refine x_icmp_t cd_i139_130 ((ii_le (by omega) (by decide)).mpr (by omega)) ?_
      refine x_ic cd_i139_138 (z := (-1)) rfl ?_
      show am_to cd_t _ _ 139 139 _ _ _ _ _ _
      exact fin
  by_cases hsum : recC (u.map fun e => O.getD e default) + recC (v.map fun e => O.getD e default) = left
  · have valid : (∀ e, v = some e → fitB dec (O.getD e default).2 ((D.2.getD j default).2.2.2.2.1.getD 1 0) = true) → (∀ res, am_to cd_t cs d 139 192 [some (.ref m), some (.int (ii (6 * x + j))), some (.int (oi r)), some (.int (ii c)), some v4, some (.int (ii left)), some v6, some v7, some v8, some (.int (oi u)), some v10, some (.int (ii jj)), some (.int (oi v))] [] σ top sl res → am_to cd_t cs d 139 123 [some (.ref m), some (.int (ii (6 * x + j))), some (.int (oi r)), some (.int (ii c)), some v4, some (.int (ii left)), some v6, some v7, some v8, some (.int (oi u)), some v10, some (.int (ii jj)), v12] [] σ top sl res) →
        ∃ (σ' : am_H) (i' : Nat → Int32) (a' : Nat → Nat → Int32) (L' : List Ent), stg m dec pl O σ' i' a' L' ∧ ER i i' a a' ∧ L8 (ImT dec (PA dec pl K c P0 (x, j) (r.map fun e => O.getD e default) (fun s => A s ∨ s = (u.toList ++ v.toList).map fun e => O.getD e default))) L' ∧ (∀ y, y < m ∨ m + 25 ≤ y → σ' y = σ y) ∧
      ∀ res, am_to cd_t cs d 139 213 [some (.ref m), some (.int (ii (6 * x + j))), some (.int (oi r)), some (.int (ii c)), some v4, some (.int (ii left)), some v6, some v7, some v8, some (.int (oi u)), some v10, some (.int (ii jj)), some (.int (oi v))] [] σ' top sl res → am_to cd_t cs d 139 123 [some (.ref m), some (.int (ii (6 * x + j))), some (.int (oi r)), some (.int (ii c)), some v4, some (.int (ii left)), some v6, some v7, some v8, some (.int (oi u)), some v10, some (.int (ii jj)), v12] [] σ top sl res := by
      intro hfv hgo
      have hV := hval.mpr ⟨hsum, hfv⟩
      obtain ⟨s1, i1, a1, L1, k1, k2, k3, k4, k5⟩ := m_offer_keep (cs := cs) (d := d) (top := top) (sl := sl) (v4 := v4) (v5 := .int (ii left)) (v6 := v6) (v7 := v7) (v8 := v8) (v10 := v10) (v11 := .int (ii jj)) (by omega) hO hrk hK hO24 hS hD hj hr hu hvu (fun s hs => by
        rcases hs with h | h
        · exact (hP0 s h).1
        · exact h.1) hL hV (fun hs => by
        rcases hs with h | h
        · exact (hP0 _ h).2 ⟨rfl, rfl⟩
        · exact hA h.2.2.2)
      refine ⟨s1, i1, a1, L1, k1, k2, ImT_iff k3 (fun s => ?_), k4, fun res hh => hgo res (k5 res hh)⟩
      constructor
      · rintro ((h | ⟨h1, h2, h3, h4⟩) | h)
        · exact Or.inl h
        · exact Or.inr ⟨h1, h2, h3, Or.inl h4⟩
        · exact Or.inr (by rw [h]; exact ⟨hV, rfl, rfl, Or.inr rfl⟩)
      · rintro (h | ⟨h1, h2, h3, h4 | h4⟩)
        · exact Or.inl (Or.inl h)
        · exact Or.inl (Or.inr ⟨h1, h2, h3, h4⟩)
        · refine Or.inr ?_
          rw [← h2, ← h3, ← h4]
    have go2 : ∀ res, am_to cd_t cs d 139 162 [some (.ref m), some (.int (ii (6 * x + j))), some (.int (oi r)), some (.int (ii c)), some v4, some (.int (ii left)), some v6, some v7, some v8, some (.int (oi u)), some v10, some (.int (ii jj)), some (.int (oi v))] [.int (-1), .int (oi v)] σ top sl res → am_to cd_t cs d 139 123 [some (.ref m), some (.int (ii (6 * x + j))), some (.int (oi r)), some (.int (ii c)), some v4, some (.int (ii left)), some v6, some v7, some v8, some (.int (oi u)), some v10, some (.int (ii jj)), v12] [] σ top sl res := by
      intro res hh
      refine go1 res (x_icmp_f cd_i139_156 (fun z => z (by rw [hsum])) ?_)
      refine x_n cd_i139_159 rfl rfl ?_
      refine x_ic cd_i139_161 (z := (-1)) rfl ?_
      show am_to cd_t _ _ 139 162 _ _ _ _ _ _
      exact hh
    cases hv0 : v with
    | none =>
      rw [hv0] at valid go2
      exact valid (fun e h => by cases h) (fun res hh => go2 res (x_icmp_t cd_i139_162 rfl hh))
    | some e =>
      have he := hvO e hv0
      have hlt1 : 1 < (D.2.getD j default).2.2.2.2.1.length := by
        rw [hv0] at hvs
        exact of_decide_eq_true hvs.symm
      have hg := (hin e he).good hK
      have hw13 := getD_lt13 hok.2.2.2.2.2.1 hlt1
      have hrowe := hS.rows e he
      have hfitm := m_fit (cs := cs) (d := d - 1) (top := top) (sl := sl) (t := (O.getD e default).2) (w := (D.2.getD j default).2.2.2.2.1.getD 1 0) (by omega) hM hC hrk hg.2.1 hw13
      rw [hv0] at go2
      have go3 : ∀ res, am_to cd_t cs d 139 186 [some (.ref m), some (.int (ii (6 * x + j))), some (.int (oi r)), some (.int (ii c)), some v4, some (.int (ii left)), some v6, some v7, some v8, some (.int (oi u)), some v10, some (.int (ii jj)), some (.int (oi (some e)))] [.int (b2i (fitB dec (O.getD e default).2 ((D.2.getD j default).2.2.2.2.1.getD 1 0)))] σ top sl res → am_to cd_t cs d 139 123 [some (.ref m), some (.int (ii (6 * x + j))), some (.int (oi r)), some (.int (ii c)), some v4, some (.int (ii left)), some v6, some v7, some v8, some (.int (oi u)), some v10, some (.int (ii jj)), v12] [] σ top sl res := by
        intro res hh
        refine go2 res (x_icmp_f cd_i139_162 (ii_ne1 (show e < 2147483648 by omega)) ?_)
        refine x_n cd_i139_165 rfl rfl ?_
        refine x_n cd_i139_166 rfl rfl ?_
        refine x_getf cd_i139_167 hM.1 rfl rfl ?_
        refine x_n cd_i139_170 rfl rfl ?_
        show am_to cd_t _ _ 139 172 _ _ _ _ _ _
        refine x_iald cd_i139_172 (hM.2 15 (by decide) (by decide)) (show e < 33 by omega) (by decide) hrowe.2.1 ?_
        refine x_n cd_i139_173 rfl rfl ?_
        refine x_getf cd_i139_174 hM.1 rfl rfl ?_
        refine x_ic cd_i139_177 (z := ii 2) rfl ?_
        refine x_n cd_i139_178 rfl rfl ?_
        refine x_imul cd_i139_179 (ii_mul _ _) ?_
        refine x_ic cd_i139_180 (z := ii 1) rfl ?_
        refine x_iadd cd_i139_181 (ii_add _ _) ?_
        show am_to cd_t _ _ 139 182 _ _ _ _ _ _
        refine x_iald cd_i139_182 (hM.2 11 (by decide) (by decide)) (show 2 * (6 * x + j) + 1 < 132 by omega) (by decide) (hrow.2.2.2.2.2.2 1 hlt1) ?_
        refine x_callv (as' := [.int (ii (O.getD e default).2), .int (ii ((D.2.getD j default).2.2.2.2.1.getD 1 0))]) cd_i139_183 hM.1 (by omega) rfl rfl rfl rfl rfl rfl (hfitm) ?_
        exact hh
      cases hf : fitB dec (O.getD e default).2 ((D.2.getD j default).2.2.2.2.1.getD 1 0) with
      | true =>
        rw [hf] at go3
        rw [hv0] at valid
        exact valid (fun e' h' => by rw [← Option.some.inj h']; exact hf) (fun res hh => go3 res (x_if_t cd_i139_186 (fun z => absurd (show (1 : Int32) = 0 from z) (by decide)) hh))
      | false =>
        rw [hf] at go3
        rw [hv0] at hval skip
        refine ⟨σ, i, a, L, hS, ER.refl i a, skip (fun h => by have := (hval.mp h).2 e rfl; rw [hf] at this; cases this), fun _ _ => rfl, fun res hh => go3 res (x_if_f cd_i139_186 (fun z => z rfl) ?_)⟩
        refine x_n cd_i139_189 rfl rfl ?_
        show am_to cd_t _ _ 139 213 _ _ _ _ _ _
        exact hh
  · have hlb : left < 1000 := by omega
    refine ⟨σ, i, a, L, hS, ER.refl i a, skip (fun h => hsum (hval.mp h).1), fun _ _ => rfl, fun res hh => go1 res (x_icmp_t cd_i139_156 (fun z => hsum ((ii_eq (by omega) (by omega)).mp z)) hh)⟩
end OB
