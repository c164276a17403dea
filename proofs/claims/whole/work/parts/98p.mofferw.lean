def uO (n e : Nat) : Option Nat := if 0 < n then some e else none
def vO (n e : Nat) : Option Nat := if 1 < n then some e else none
def asO (O : List Ent) (n e f : Nat) : List Ent := ((uO n e).toList ++ (vO n f).toList).map (fun k => O.getD k default)
theorem ent_inj {O : List Ent} {e f : Nat} (hn : O.Nodup) (he : e < O.length) (hf : f < O.length) (h : O.getD e default = O.getD f default) : e = f := by
  rw [entD_in he, entD_in hf] at h
  exact (List.getElem_inj hn).mp h
theorem asO_inj {O : List Ent} {n e f e' f' : Nat} (hn : O.Nodup) (he : e < if 0 < n then O.length else 1) (he' : e' < if 0 < n then O.length else 1) (hf : f < if 1 < n then O.length else 1) (hf' : f' < if 1 < n then O.length else 1) (h : asO O n e f = asO O n e' f') : e = e' ∧ f = f' := by
  unfold asO uO vO at h
  by_cases h1 : 0 < n
  · rw [if_pos h1, if_pos h1] at h
    rw [if_pos h1] at he he'
    by_cases h2 : 1 < n
    · rw [if_pos h2, if_pos h2] at h
      rw [if_pos h2] at hf hf'
      have h := List.cons.inj h
      have h' := List.cons.inj h.2
      exact ⟨ent_inj hn he he' h.1, ent_inj hn hf hf' h'.1⟩
    · rw [if_neg h2, if_neg h2] at h
      rw [if_neg h2] at hf hf'
      have h := List.cons.inj h
      exact ⟨ent_inj hn he he' h.1, by omega⟩
  · rw [if_neg h1] at he he'
    rw [if_neg (show ¬ 1 < n by omega)] at hf hf'
    exact ⟨by omega, by omega⟩
section OL
variable {cs : Nat → Value} {d m top sl : Nat} {dec : Nat → Option Dec} {pl : Int32} {K : Nat → List Ent} {c : Nat} {rk : Nat → Nat} {O : List Ent}
theorem m_offer_in {x j left e : Nat} {D : Dec} {r : Option Nat} {v4 v6 v8 : Value} {P0 : Tup → Prop} {A : List Ent → Prop} (hd : 3 < d) (hc4 : c < 4) (hO : catOk dec) (hrk : ranked dec rk) (hK : Kok K c) (hO24 : O.length ≤ 24) (hnd : O.Nodup) (hD : dec x = some D) (hj : j < D.2.length) (hr : ∀ e, r = some e → e < O.length) (he : e < if 0 < (D.2.getD j default).2.2.2.2.1.length then O.length else 1)
    (hin : ∀ e, e < O.length → inK K c (O.getD e default)) (hrec : match (r.map fun e => O.getD e default) with | none => ((memQ dec (x, j)).2.2.1 = true ∨ (memQ dec (x, j)).1 = 2) ∧ usB pl x (memQ dec (x, j)) = true | some e => inK K c e ∧ 3 ≤ e.2 ∧ snB dec pl (e.2 - 3) x j = true) (hleft : 1 + recC (r.map fun e => O.getD e default) + left = c) (hfit : ∀ k, uO (D.2.getD j default).2.2.2.2.1.length e = some k → fitB dec (O.getD k default).2 ((D.2.getD j default).2.2.2.2.1.getD 0 0) = true)
    (hP0 : ∀ σ, P0 σ → Val dec pl K c σ ∧ ¬ (σ.1 = (x, j) ∧ σ.2.1 = r.map fun e => O.getD e default)) (hA : ∀ f, f < (if 1 < (D.2.getD j default).2.2.2.2.1.length then O.length else 1) → ¬ A (asO O (D.2.getD j default).2.2.2.2.1.length e f)) :
    ∀ (n f : Nat) (σ : am_H) (i : Nat → Int32) (a : Nat → Nat → Int32) (L : List Ent) (v12 : Option Value), f + n = (if 1 < (D.2.getD j default).2.2.2.2.1.length then O.length else 1) → stg m dec pl O σ i a L → L8 (ImT dec (PA dec pl K c P0 (x, j) (r.map fun e => O.getD e default) (fun s => A s ∨ ∃ g, g < f ∧ s = asO O (D.2.getD j default).2.2.2.2.1.length e g))) L →
    ∃ (σ' : am_H) (i' : Nat → Int32) (a' : Nat → Nat → Int32) (L' : List Ent) (v11' v12' : Option Value), stg m dec pl O σ' i' a' L' ∧ ER i i' a a' ∧ L8 (ImT dec (PA dec pl K c P0 (x, j) (r.map fun e => O.getD e default) (fun s => A s ∨ ∃ g, g < (if 1 < (D.2.getD j default).2.2.2.2.1.length then O.length else 1) ∧ s = asO O (D.2.getD j default).2.2.2.2.1.length e g))) L' ∧ (∀ y, y < m ∨ m + 25 ≤ y → σ' y = σ y) ∧
      ∀ res, am_to cd_t cs d 139 219 [some (.ref m), some (.int (ii (6 * x + j))), some (.int (oi r)), some (.int (ii c)), some v4, some (.int (ii left)), some v6, some (.int (ii (if 1 < (D.2.getD j default).2.2.2.2.1.length then O.length else 1))), some v8, some (.int (oi (uO (D.2.getD j default).2.2.2.2.1.length e))), some (.int (b2i true)), v11', v12'] [] σ' top sl res → am_to cd_t cs d 139 111 [some (.ref m), some (.int (ii (6 * x + j))), some (.int (oi r)), some (.int (ii c)), some v4, some (.int (ii left)), some v6, some (.int (ii (if 1 < (D.2.getD j default).2.2.2.2.1.length then O.length else 1))), some v8, some (.int (oi (uO (D.2.getD j default).2.2.2.2.1.length e))), some (.int (b2i true)), some (.int (ii f)), v12] [] σ top sl res := by
  have hnb : (if 1 < (D.2.getD j default).2.2.2.2.1.length then O.length else 1) ≤ 24 := by split <;> omega
  obtain ⟨nb, hnbe⟩ : ∃ z, z = (if 1 < (D.2.getD j default).2.2.2.2.1.length then O.length else 1) := ⟨_, rfl⟩
  rw [← hnbe] at hnb hA ⊢
  intro n
  induction n with
  | zero =>
    intro f σ i a L v12 hf hS hL
    rw [show f = nb by omega] at hL ⊢
    refine ⟨σ, i, a, L, some (.int (ii nb)), v12, hS, ER.refl i a, hL, fun _ _ => rfl, fun res hh => ?_⟩
    refine x_n cd_i139_111 rfl rfl ?_
    refine x_n cd_i139_113 rfl rfl ?_
    show am_to cd_t _ _ 139 115 _ _ _ _ _ _
    exact x_icmp_t cd_i139_115 ((ii_le (by omega) (by omega)).mpr (Nat.le_refl _)) hh
  | succ n ih =>
    intro f σ i a L v12 hf hS hL
    have hfn : f < nb := by omega
    have husome : (uO (D.2.getD j default).2.2.2.2.1.length e).isSome = decide (0 < (D.2.getD j default).2.2.2.2.1.length) := by
      unfold uO
      by_cases h : 0 < (D.2.getD j default).2.2.2.2.1.length
      · rw [if_pos h, decide_eq_true h]
        rfl
      · rw [if_neg h, decide_eq_false h]
        rfl
    obtain ⟨s1, i1, a1, L1, k1, k2, k3, k4, k5⟩ := m_offer_body (cs := cs) (d := d) (top := top) (sl := sl) (u := uO (D.2.getD j default).2.2.2.2.1.length e) (v := vO (D.2.getD j default).2.2.2.2.1.length f) (jj := f) (v4 := v4) (v6 := v6) (v7 := .int (ii nb)) (v8 := v8) (v10 := .int (b2i true)) (v12 := v12) hd hO hrk hK hO24 hS hD hj hr (fun k hk => by
      unfold uO at hk
      by_cases h : 0 < (D.2.getD j default).2.2.2.2.1.length
      · rw [if_pos h] at hk he
        rw [← Option.some.inj hk]
        exact he
      · rw [if_neg h] at hk
        cases hk) husome rfl (fun k hk => by
      unfold vO at hk
      by_cases h : 1 < (D.2.getD j default).2.2.2.2.1.length
      · rw [if_pos h] at hk hnbe
        rw [← Option.some.inj hk]
        omega
      · rw [if_neg h] at hk
        cases hk) (by omega) hc4 hin hrec hleft hfit hP0 (fun h => by
      rcases h with h | ⟨g, hg, h⟩
      · exact hA f hfn h
      · have := (asO_inj hnd he he (by rw [← hnbe]; exact hfn) (by rw [← hnbe]; omega) h).2
        omega) hL
    obtain ⟨s2, i2, a2, L2, v11', v12', l1, l2, l3, l4, l5⟩ := ih (f + 1) s1 i1 a1 L1 _ (by omega) k1 (ImT_iff k3 (fun s => by
      constructor
      · rintro (h | ⟨h1, h2, h3, (h4 | ⟨g, hg, h4⟩) | h4⟩)
        · exact Or.inl h
        · exact Or.inr ⟨h1, h2, h3, Or.inl h4⟩
        · exact Or.inr ⟨h1, h2, h3, Or.inr ⟨g, by omega, h4⟩⟩
        · exact Or.inr ⟨h1, h2, h3, Or.inr ⟨f, by omega, h4⟩⟩
      · rintro (h | ⟨h1, h2, h3, h4 | ⟨g, hg, h4⟩⟩)
        · exact Or.inl h
        · exact Or.inr ⟨h1, h2, h3, Or.inl (Or.inl h4)⟩
        · by_cases eg : g = f
          · rw [eg] at h4
            exact Or.inr ⟨h1, h2, h3, Or.inr h4⟩
          · exact Or.inr ⟨h1, h2, h3, Or.inl (Or.inr ⟨g, by omega, h4⟩)⟩))
    refine ⟨s2, i2, a2, L2, v11', v12', l1, k2.trans l2, l3, fun y hy => (l4 y hy).trans (k4 y hy), fun res hh => ?_⟩
    refine x_n cd_i139_111 rfl rfl ?_
    refine x_n cd_i139_113 rfl rfl ?_
    show am_to cd_t _ _ 139 115 _ _ _ _ _ _
    refine x_icmp_f cd_i139_115 (fun z => by have := (ii_le (by omega) (by omega)).mp (show ii nb ≤ ii f from z); omega) ?_
    refine x_n cd_i139_118 rfl rfl ?_
    show am_to cd_t _ _ 139 120 _ _ _ _ _ _
    refine x_if_f cd_i139_120 (fun z => absurd (show (1 : Int32) = 0 from z) (by decide)) ?_
    refine k5 res ?_
    refine x_iinc cd_i139_213 rfl (ii_add _ 1) rfl ?_
    try dsimp only [List.set]
    refine x_n cd_i139_216 rfl rfl ?_
    show am_to cd_t _ _ 139 111 _ _ _ _ _ _
    exact l5 res hh
theorem m_offer {x j left : Nat} {D : Dec} {r : Option Nat} {P0 : Tup → Prop} {σ : am_H} {i : Nat → Int32} {a : Nat → Nat → Int32} {L : List Ent} (hd : 3 < d) (hc4 : c < 4) (hO : catOk dec) (hrk : ranked dec rk) (hK : Kok K c) (hO24 : O.length ≤ 24) (hnd : O.Nodup) (hD : dec x = some D) (hj : j < D.2.length) (hr : ∀ e, r = some e → e < O.length)
    (hin : ∀ e, e < O.length → inK K c (O.getD e default)) (hall : ∀ E, inK K c E → ∃ e, e < O.length ∧ O.getD e default = E) (hrec : match (r.map fun e => O.getD e default) with | none => ((memQ dec (x, j)).2.2.1 = true ∨ (memQ dec (x, j)).1 = 2) ∧ usB pl x (memQ dec (x, j)) = true | some e => inK K c e ∧ 3 ≤ e.2 ∧ snB dec pl (e.2 - 3) x j = true) (hleft : 1 + recC (r.map fun e => O.getD e default) + left = c)
    (hP0 : ∀ σ, P0 σ → Val dec pl K c σ ∧ ¬ (σ.1 = (x, j) ∧ σ.2.1 = r.map fun e => O.getD e default)) (hS : stg m dec pl O σ i a L) (hL : L8 (ImT dec P0) L) :
    ∃ (σ' : am_H) (i' : Nat → Int32) (a' : Nat → Nat → Int32) (L' : List Ent), am_to cd_t cs d 139 0 (am_ent 13 [.ref m, .int (ii (6 * x + j)), .int (oi r), .int (ii c), .int (ii O.length)]) [] σ top sl (.inl none, σ', top, sl) ∧ stg m dec pl O σ' i' a' L' ∧ ER i i' a a' ∧ L8 (ImT dec (fun s => P0 s ∨ (Val dec pl K c s ∧ s.1 = (x, j) ∧ s.2.1 = r.map fun e => O.getD e default))) L' ∧ ∀ y, y < m ∨ m + 25 ≤ y → σ' y = σ y := by
  obtain ⟨hM, hF, h24, hC, hpl, hL8⟩ := id hS
  have hx := (hrk x D hD).1
  have hok := (hO x D hD).2.1 _ (getD_mem hj)
  have h6 := (hO x D hD).1
  have hl2 := hok.2.2.2.2.1
  have em : memQ dec (x, j) = D.2.getD j default := by unfold memQ memsOf; rw [hD]
  obtain ⟨N, hN⟩ : ∃ N, N = (D.2.getD j default).2.2.2.2.1.length := ⟨_, rfl⟩
  obtain ⟨na, hna⟩ : ∃ z, z = (if 0 < N then O.length else 1) := ⟨_, rfl⟩
  obtain ⟨nb, hnb⟩ : ∃ z, z = (if 1 < N then O.length else 1) := ⟨_, rfl⟩
  have hna24 : na ≤ 24 := by rw [hna]; split <;> omega
  have loop : ∀ (n e : Nat) (σ : am_H) (i : Nat → Int32) (a : Nat → Nat → Int32) (L : List Ent) (v9 v10 v11 v12 : Option Value), e + n = na → stg m dec pl O σ i a L → L8 (ImT dec (PA dec pl K c P0 (x, j) (r.map fun e => O.getD e default) (fun s => ∃ e' g, e' < e ∧ g < nb ∧ s = asO O N e' g))) L →
      ∃ (σ' : am_H) (i' : Nat → Int32) (a' : Nat → Nat → Int32) (L' : List Ent), am_to cd_t cs d 139 49 [some (.ref m), some (.int (ii (6 * x + j))), some (.int (oi r)), some (.int (ii c)), some (.int (ii O.length)), some (.int (ii left)), some (.int (ii na)), some (.int (ii nb)), some (.int (ii e)), v9, v10, v11, v12] [] σ top sl (.inl none, σ', top, sl) ∧ stg m dec pl O σ' i' a' L' ∧ ER i i' a a' ∧ L8 (ImT dec (PA dec pl K c P0 (x, j) (r.map fun e => O.getD e default) (fun s => ∃ e' g, e' < na ∧ g < nb ∧ s = asO O N e' g))) L' ∧ ∀ y, y < m ∨ m + 25 ≤ y → σ' y = σ y := by
    intro n
    induction n with
    | zero =>
      intro e σ i a L v9 v10 v11 v12 he hS hL
      rw [show e = na by omega] at hL ⊢
      refine ⟨σ, i, a, L, ?_, hS, ER.refl i a, hL, fun _ _ => rfl⟩
      refine x_n cd_i139_49 rfl rfl ?_
      refine x_n cd_i139_51 rfl rfl ?_
      show am_to cd_t _ _ 139 53 _ _ _ _ _ _
      refine x_icmp_t cd_i139_53 ((ii_le (by omega) (by omega)).mpr (Nat.le_refl _)) ?_
      exact x_end cd_i139_225 rfl rfl rfl
    | succ n ih =>
      intro e σ i a L v9 v10 v11 v12 he hS hL
      have hen : e < na := by omega
      have hM := hS.1
      obtain ⟨q1, q2, q3, q4, q5⟩ := (hS.2.2.2.1 x hx).2 D hD
      have hrow := q5 j hj
      have h10 : a 10 (6 * x + j) = ii N := by rw [hN]; exact hrow.2.2.2.2.2.1
      obtain ⟨g, hg, hgo⟩ : ∃ g : Bool, (g = true ↔ ∀ k, uO N e = some k → fitB dec (O.getD k default).2 ((D.2.getD j default).2.2.2.2.1.getD 0 0) = true) ∧ ∀ res, am_to cd_t cs d 139 111 [some (.ref m), some (.int (ii (6 * x + j))), some (.int (oi r)), some (.int (ii c)), some (.int (ii O.length)), some (.int (ii left)), some (.int (ii na)), some (.int (ii nb)), some (.int (ii e)), some (.int (oi (uO N e))), some (.int (b2i g)), some (.int (ii 0)), v12] [] σ top sl res → am_to cd_t cs d 139 49 [some (.ref m), some (.int (ii (6 * x + j))), some (.int (oi r)), some (.int (ii c)), some (.int (ii O.length)), some (.int (ii left)), some (.int (ii na)), some (.int (ii nb)), some (.int (ii e)), v9, v10, v11, v12] [] σ top sl res := by
        have pre1 : ∀ res, am_to cd_t cs d 139 62 [some (.ref m), some (.int (ii (6 * x + j))), some (.int (oi r)), some (.int (ii c)), some (.int (ii O.length)), some (.int (ii left)), some (.int (ii na)), some (.int (ii nb)), some (.int (ii e)), v9, v10, v11, v12] [.int (ii N)] σ top sl res → am_to cd_t cs d 139 49 [some (.ref m), some (.int (ii (6 * x + j))), some (.int (oi r)), some (.int (ii c)), some (.int (ii O.length)), some (.int (ii left)), some (.int (ii na)), some (.int (ii nb)), some (.int (ii e)), v9, v10, v11, v12] [] σ top sl res := by
          intro res hh
          refine x_n cd_i139_49 rfl rfl ?_
          refine x_n cd_i139_51 rfl rfl ?_
          show am_to cd_t _ _ 139 53 _ _ _ _ _ _
          refine x_icmp_f cd_i139_53 (fun z => by have := (ii_le (by omega) (by omega)).mp (show ii na ≤ ii e from z); omega) ?_
          refine x_n cd_i139_56 rfl rfl ?_
          refine x_getf cd_i139_57 hM.1 rfl rfl ?_
          refine x_n cd_i139_60 rfl rfl ?_
          show am_to cd_t _ _ 139 61 _ _ _ _ _ _
          refine x_iald cd_i139_61 (hM.2 10 (by decide) (by decide)) (show _ < 66 by omega) (by decide) (h10) ?_
          exact hh
        by_cases h0 : 0 < N
        · have eu : uO N e = some e := by unfold uO; rw [if_pos h0]
          rw [if_pos h0] at hna
          have heO : e < O.length := by omega
          have hlt0 : 0 < (D.2.getD j default).2.2.2.2.1.length := by omega
          have hfitm := m_fit (cs := cs) (d := d - 1) (top := top) (sl := sl) (t := (O.getD e default).2) (w := (D.2.getD j default).2.2.2.2.1.getD 0 0) (by omega) hM hS.2.2.2.1 hrk ((hin e heO).good hK).2.1 (getD_lt13 hok.2.2.2.2.2.1 hlt0)
          refine ⟨fitB dec (O.getD e default).2 ((D.2.getD j default).2.2.2.2.1.getD 0 0), ⟨fun h k hk => by rw [eu] at hk; rw [← Option.some.inj hk]; exact h, fun h => h e eu⟩, fun res hh => pre1 res ?_⟩
          rw [eu] at hh
          refine x_if_f cd_i139_62 (fun z => by have := (ii_le (b := 0) (by omega) (by decide)).mp (show ii N ≤ ii 0 from z); omega) ?_
          refine x_n cd_i139_65 rfl rfl ?_
          refine x_n cd_i139_67 rfl rfl ?_
          refine x_n cd_i139_71 rfl rfl ?_
          try dsimp only [List.set]
          refine x_n cd_i139_73 rfl rfl ?_
          refine x_ic cd_i139_75 (z := (-1)) rfl ?_
          show am_to cd_t _ _ 139 76 _ _ _ _ _ _
          refine x_icmp_f cd_i139_76 (ii_ne1 (show e < 2147483648 by omega)) ?_
          refine x_n cd_i139_79 rfl rfl ?_
          refine x_n cd_i139_80 rfl rfl ?_
          refine x_getf cd_i139_81 hM.1 rfl rfl ?_
          refine x_n cd_i139_84 rfl rfl ?_
          show am_to cd_t _ _ 139 86 _ _ _ _ _ _
          refine x_iald cd_i139_86 (hM.2 15 (by decide) (by decide)) (show e < 33 by omega) (by decide) (hS.rows e heO).2.1 ?_
          refine x_n cd_i139_87 rfl rfl ?_
          refine x_getf cd_i139_88 hM.1 rfl rfl ?_
          refine x_ic cd_i139_91 (z := ii 2) rfl ?_
          refine x_n cd_i139_92 rfl rfl ?_
          refine x_imul cd_i139_93 (ii_mul _ _) ?_
          show am_to cd_t _ _ 139 94 _ _ _ _ _ _
          refine x_iald cd_i139_94 (hM.2 11 (by decide) (by decide)) (show 2 * (6 * x + j) < 132 by omega) (by decide) (hrow.2.2.2.2.2.2 0 hlt0) ?_
          refine x_callv (as' := [.int (ii (O.getD e default).2), .int (ii ((D.2.getD j default).2.2.2.2.1.getD 0 0))]) cd_i139_95 hM.1 (by omega) rfl rfl rfl rfl rfl rfl (hfitm) ?_
          cases hf : fitB dec (O.getD e default).2 ((D.2.getD j default).2.2.2.2.1.getD 0 0) with
          | true =>
            rw [hf] at hh
            refine x_if_f cd_i139_98 (fun z => absurd (show (1 : Int32) = 0 from z) (by decide)) ?_
            refine x_ic cd_i139_101 (z := ii 1) rfl ?_
            refine x_n cd_i139_102 rfl rfl ?_
            refine x_n cd_i139_106 rfl rfl ?_
            try dsimp only [List.set]
            refine x_ic cd_i139_108 (z := ii 0) rfl ?_
            refine x_n cd_i139_109 rfl rfl ?_
            try dsimp only [List.set]
            show am_to cd_t _ _ 139 111 _ _ _ _ _ _
            exact hh
          | false =>
            rw [hf] at hh
            refine x_if_t cd_i139_98 rfl ?_
            refine x_ic cd_i139_105 (z := ii 0) rfl ?_
            refine x_n cd_i139_106 rfl rfl ?_
            try dsimp only [List.set]
            refine x_ic cd_i139_108 (z := ii 0) rfl ?_
            refine x_n cd_i139_109 rfl rfl ?_
            try dsimp only [List.set]
            show am_to cd_t _ _ 139 111 _ _ _ _ _ _
            exact hh
        · have eu : uO N e = none := by unfold uO; rw [if_neg h0]
          refine ⟨true, ⟨(fun _ k hk => by rw [eu] at hk; cases hk), fun _ => rfl⟩, fun res hh => pre1 res ?_⟩
          rw [eu] at hh
          refine x_if_t cd_i139_62 ((ii_le (b := 0) (by omega) (by decide)).mpr (by omega)) ?_
          refine x_ic cd_i139_70 (z := (-1)) rfl ?_
          refine x_n cd_i139_71 rfl rfl ?_
          try dsimp only [List.set]
          refine x_n cd_i139_73 rfl rfl ?_
          refine x_ic cd_i139_75 (z := (-1)) rfl ?_
          show am_to cd_t _ _ 139 76 _ _ _ _ _ _
          refine x_icmp_t cd_i139_76 rfl ?_
          refine x_ic cd_i139_101 (z := ii 1) rfl ?_
          refine x_n cd_i139_102 rfl rfl ?_
          refine x_n cd_i139_106 rfl rfl ?_
          try dsimp only [List.set]
          refine x_ic cd_i139_108 (z := ii 0) rfl ?_
          refine x_n cd_i139_109 rfl rfl ?_
          try dsimp only [List.set]
          show am_to cd_t _ _ 139 111 _ _ _ _ _ _
          exact hh
      have setEq : ∀ s, (PA dec pl K c P0 (x, j) (r.map fun e => O.getD e default) (fun s => (∃ e' g, e' < e ∧ g < nb ∧ s = asO O N e' g) ∨ ∃ g, g < nb ∧ s = asO O N e g) s ↔ PA dec pl K c P0 (x, j) (r.map fun e => O.getD e default) (fun s => ∃ e' g, e' < e + 1 ∧ g < nb ∧ s = asO O N e' g) s) := by
        intro s
        constructor
        · rintro (h | ⟨h1, h2, h3, ⟨e', g', h4, h5, h6⟩ | ⟨g', h4, h5⟩⟩)
          · exact Or.inl h
          · exact Or.inr ⟨h1, h2, h3, e', g', by omega, h5, h6⟩
          · exact Or.inr ⟨h1, h2, h3, e, g', by omega, h4, h5⟩
        · rintro (h | ⟨h1, h2, h3, e', g', h4, h5, h6⟩)
          · exact Or.inl h
          · by_cases ee : e' = e
            · rw [ee] at h6
              exact Or.inr ⟨h1, h2, h3, Or.inr ⟨g', h5, h6⟩⟩
            · exact Or.inr ⟨h1, h2, h3, Or.inl ⟨e', g', by omega, h5, h6⟩⟩
      cases g with
      | true =>
        obtain ⟨s1, i1, a1, L1, v11', v12', k1, k2, k3, k4, k5⟩ := m_offer_in (cs := cs) (d := d) (m := m) (top := top) (sl := sl) (e := e) (left := left) (r := r) (v4 := .int (ii O.length)) (v6 := .int (ii na)) (v8 := .int (ii e)) (P0 := P0) (A := fun s => ∃ e' g, e' < e ∧ g < nb ∧ s = asO O N e' g) hd hc4 hO hrk hK hO24 hnd hD hj hr (by rw [← hN, ← hna]; exact hen) hin hrec hleft (by rw [← hN]; exact hg.mp rfl) hP0 (by
          rw [← hN, ← hnb]
          rintro f hf ⟨e', g', h1, h2, h3⟩
          have := (asO_inj hnd (by rw [← hna]; exact hen) (by rw [← hna]; omega) (by rw [← hnb]; exact hf) (by rw [← hnb]; exact h2) h3).1
          omega) nb 0 σ i a L v12 (by rw [← hN, ← hnb, Nat.zero_add]) hS (ImT_iff hL (fun s => by
          constructor
          · rintro (h | ⟨h1, h2, h3, h4⟩)
            · exact Or.inl h
            · exact Or.inr ⟨h1, h2, h3, Or.inl h4⟩
          · rintro (h | ⟨h1, h2, h3, h4 | ⟨g', hg', -⟩⟩)
            · exact Or.inl h
            · exact Or.inr ⟨h1, h2, h3, h4⟩
            · exact absurd hg' (Nat.not_lt_zero g')))
        rw [← hN, ← hnb] at k3 k5
        obtain ⟨s2, i2, a2, L2, l1, l2, l3, l4, l5⟩ := ih (e + 1) s1 i1 a1 L1 (some (.int (oi (uO N e)))) (some (.int (b2i true))) v11' v12' (by omega) k1 (ImT_iff k3 setEq)
        refine ⟨s2, i2, a2, L2, hgo _ (k5 _ ?_), l2, k2.trans l3, l4, fun y hy => (l5 y hy).trans (k4 y hy)⟩
        refine x_iinc cd_i139_219 rfl (ii_add _ 1) rfl ?_
        try dsimp only [List.set]
        refine x_n cd_i139_222 rfl rfl ?_
        show am_to cd_t _ _ 139 49 _ _ _ _ _ _
        exact l1
      | false =>
        obtain ⟨s2, i2, a2, L2, l1, l2, l3, l4, l5⟩ := ih (e + 1) σ i a L (some (.int (oi (uO N e)))) (some (.int (b2i false))) (some (.int (ii 0))) v12 (by omega) hS (ImT_iff hL (fun s => by
          rw [← setEq s]
          constructor
          · rintro (h | ⟨h1, h2, h3, h4⟩)
            · exact Or.inl h
            · exact Or.inr ⟨h1, h2, h3, Or.inl h4⟩
          · rintro (h | ⟨h1, h2, h3, h4 | ⟨g', hg', h4⟩⟩)
            · exact Or.inl h
            · exact Or.inr ⟨h1, h2, h3, h4⟩
            · refine absurd (hg.mpr (fun k hk => ?_)) (by decide)
              have hfl := h1.2.2.2.1
              have hmq : memQ dec s.1 = D.2.getD j default := by rw [h2]; exact em
              rw [h4, hmq] at hfl
              unfold asO at hfl
              rw [hk] at hfl
              cases hps : (D.2.getD j default).2.2.2.2.1 with
              | nil =>
                rw [hps] at hfl
                exact absurd hfl id
              | cons w ps =>
                rw [hps] at hfl
                exact hfl.1))
        refine ⟨s2, i2, a2, L2, hgo _ ?_, l2, l3, l4, l5⟩
        have fin : am_to cd_t cs d 139 219 [some (.ref m), some (.int (ii (6 * x + j))), some (.int (oi r)), some (.int (ii c)), some (.int (ii O.length)), some (.int (ii left)), some (.int (ii na)), some (.int (ii nb)), some (.int (ii e)), some (.int (oi (uO N e))), some (.int (b2i false)), some (.int (ii 0)), v12] [] σ top sl (.inl none, s2, top, sl) := by
          refine x_iinc cd_i139_219 rfl (ii_add _ 1) rfl ?_
          try dsimp only [List.set]
          refine x_n cd_i139_222 rfl rfl ?_
          show am_to cd_t _ _ 139 49 _ _ _ _ _ _
          exact l1
        refine x_n cd_i139_111 rfl rfl ?_
        refine x_n cd_i139_113 rfl rfl ?_
        show am_to cd_t _ _ 139 115 _ _ _ _ _ _
        refine x_icmp cd_i139_115 (fun _ => fin) (fun _ => ?_)
        refine x_n cd_i139_118 rfl rfl ?_
        show am_to cd_t _ _ 139 120 _ _ _ _ _ _
        exact x_if_t cd_i139_120 rfl fin
  obtain ⟨s2, i2, a2, L2, l1, l2, l3, l4, l5⟩ := loop na 0 σ i a L none none none none (Nat.zero_add _) hS (ImT_iff hL (fun s => by
    constructor
    · intro h
      exact Or.inl h
    · rintro (h | ⟨-, -, -, e', g', h4, -⟩)
      · exact h
      · exact absurd h4 (Nat.not_lt_zero e')))
  refine ⟨s2, i2, a2, L2, ?_, l2, l3, ImT_iff l4 (fun s => ?_), l5⟩
  · have hcr := m_costOf (cs := cs) (d := d - 1) (top := top) (sl := sl) (o := r) hM hS.rows (by omega) hr
    obtain ⟨q1, q2, q3, q4, q5⟩ := (hC x hx).2 D hD
    have h10 : a 10 (6 * x + j) = ii N := by rw [hN]; exact (q5 j hj).2.2.2.2.2.1
    have mid : am_to cd_t cs d 139 28 [some (.ref m), some (.int (ii (6 * x + j))), some (.int (oi r)), some (.int (ii c)), some (.int (ii O.length)), some (.int (ii left)), some (.int (ii na)), none, none, none, none, none, none] [] σ top sl (.inl none, s2, top, sl) := by
      refine x_n cd_i139_28 rfl rfl ?_
      refine x_getf cd_i139_29 hM.1 rfl rfl ?_
      refine x_n cd_i139_32 rfl rfl ?_
      show am_to cd_t _ _ 139 33 _ _ _ _ _ _
      refine x_iald cd_i139_33 (hM.2 10 (by decide) (by decide)) (show _ < 66 by omega) (by decide) (h10) ?_
      refine x_ic cd_i139_34 (z := ii 1) rfl ?_
      show am_to cd_t _ _ 139 35 _ _ _ _ _ _
      by_cases h1 : 1 < N
      · rw [if_pos h1] at hnb
        rw [hnb] at l1
        refine x_icmp_f cd_i139_35 (fun z => by have := (ii_le (by omega) (by decide)).mp (show ii N ≤ ii 1 from z); omega) ?_
        refine x_n cd_i139_38 rfl rfl ?_
        refine x_n cd_i139_40 rfl rfl ?_
        refine x_n cd_i139_44 rfl rfl ?_
        try dsimp only [List.set]
        refine x_ic cd_i139_46 (z := ii 0) rfl ?_
        refine x_n cd_i139_47 rfl rfl ?_
        try dsimp only [List.set]
        show am_to cd_t _ _ 139 49 _ _ _ _ _ _
        exact l1
      · rw [if_neg h1] at hnb
        rw [hnb] at l1
        refine x_icmp_t cd_i139_35 ((ii_le (by omega) (by decide)).mpr (by omega)) ?_
        refine x_ic cd_i139_43 (z := ii 1) rfl ?_
        refine x_n cd_i139_44 rfl rfl ?_
        try dsimp only [List.set]
        refine x_ic cd_i139_46 (z := ii 0) rfl ?_
        refine x_n cd_i139_47 rfl rfl ?_
        try dsimp only [List.set]
        show am_to cd_t _ _ 139 49 _ _ _ _ _ _
        exact l1
    refine x_n cd_i139_0 rfl rfl ?_
    refine x_ic cd_i139_1 (z := ii 1) rfl ?_
    show am_to cd_t _ _ 139 2 _ _ _ _ _ _
    refine x_isub cd_i139_2 (z := ii (c - 1)) (ii_sub (by omega)) ?_
    refine x_n cd_i139_3 rfl rfl ?_
    refine x_n cd_i139_4 rfl rfl ?_
    show am_to cd_t _ _ 139 5 _ _ _ _ _ _
    refine x_callv (as' := [.int (oi r)]) cd_i139_5 hM.1 (by omega) rfl rfl rfl rfl rfl rfl (hcr) ?_
    refine x_isub cd_i139_8 (z := ii left) (by rw [ii_sub (by omega)]; congr 1; omega) ?_
    refine x_n cd_i139_9 rfl rfl ?_
    try dsimp only [List.set]
    refine x_n cd_i139_11 rfl rfl ?_
    refine x_getf cd_i139_12 hM.1 rfl rfl ?_
    refine x_n cd_i139_15 rfl rfl ?_
    show am_to cd_t _ _ 139 16 _ _ _ _ _ _
    refine x_iald cd_i139_16 (hM.2 10 (by decide) (by decide)) (show _ < 66 by omega) (by decide) (h10) ?_
    by_cases h0 : 0 < N
    · rw [if_pos h0] at hna
      rw [hna] at mid
      refine x_if_f cd_i139_17 (fun z => by have := (ii_le (b := 0) (by omega) (by decide)).mp (show ii N ≤ ii 0 from z); omega) ?_
      refine x_n cd_i139_20 rfl rfl ?_
      refine x_n cd_i139_22 rfl rfl ?_
      refine x_n cd_i139_26 rfl rfl ?_
      try dsimp only [List.set]
      show am_to cd_t _ _ 139 28 _ _ _ _ _ _
      exact mid
    · rw [if_neg h0] at hna
      rw [hna] at mid
      refine x_if_t cd_i139_17 ((ii_le (b := 0) (by omega) (by decide)).mpr (by omega)) ?_
      refine x_ic cd_i139_25 (z := ii 1) rfl ?_
      refine x_n cd_i139_26 rfl rfl ?_
      try dsimp only [List.set]
      show am_to cd_t _ _ 139 28 _ _ _ _ _ _
      exact mid
  · constructor
    · rintro (h | ⟨h1, h2, h3, -⟩)
      · exact Or.inl h
      · exact Or.inr ⟨h1, h2, h3⟩
    · rintro (h | ⟨h1, h2, h3⟩)
      · exact Or.inl h
      · refine Or.inr ⟨h1, h2, h3, ?_⟩
        have hfl := h1.2.2.2.1
        have hmq : memQ dec s.1 = D.2.getD j default := by rw [h2]; exact em
        rw [hmq] at hfl
        have hlen := fitsL_len hfl
        have hmem := h1.2.2.1
        generalize s.2.2 = as at hfl hlen hmem
        match as, hlen, hmem with
        | [], hlen, _ =>
          have hN0 : N = 0 := by rw [hN, ← hlen]; rfl
          refine ⟨0, 0, by rw [hna, if_neg (by omega)]; decide, by rw [hnb, if_neg (by omega)]; decide, ?_⟩
          unfold asO uO vO
          rw [if_neg (by omega), if_neg (by omega)]
          rfl
        | [u], hlen, hmem =>
          have hN1 : N = 1 := by rw [hN, ← hlen]; rfl
          obtain ⟨e, he, ee⟩ := hall u (hmem u List.mem_cons_self)
          refine ⟨e, 0, by rw [hna, if_pos (by omega)]; exact he, by rw [hnb, if_neg (by omega)]; decide, ?_⟩
          unfold asO uO vO
          rw [if_pos (by omega), if_neg (by omega)]
          show [u] = [O.getD e default]
          rw [ee]
        | [u, v], hlen, hmem =>
          have hN2 : N = 2 := by rw [hN, ← hlen]; rfl
          obtain ⟨e, he, ee⟩ := hall u (hmem u List.mem_cons_self)
          obtain ⟨f, hf, ef⟩ := hall v (hmem v (List.mem_cons_of_mem _ List.mem_cons_self))
          refine ⟨e, f, by rw [hna, if_pos (by omega)]; exact he, by rw [hnb, if_pos (by omega)]; exact hf, ?_⟩
          unfold asO uO vO
          rw [if_pos (by omega), if_pos (by omega)]
          show [u, v] = [O.getD e default, O.getD f default]
          rw [ee, ef]
        | _ :: _ :: _ :: _, hlen, _ =>
          rw [List.length_cons, List.length_cons, List.length_cons] at hlen
          omega
end OL
