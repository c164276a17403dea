/-! complete, of the reference -/
def catK (K : Nat → List Ent) : Nat → List Ent
  | 0 => []
  | c + 1 => catK K c ++ K c
def Kspec (dec : Nat → Option Dec) (pl : Int32) (vs : List (List Nat × Nat)) (K : Nat → List Ent) (n : Nat) : Prop := ∀ c, c < n → L8 (if c = 0 then (fun e => e ∈ vs) else ImT dec (Val dec pl K c)) (K c)
def prOf (dec : Nat → Option Dec) (F : List Ent) (t : Nat) : List (List Nat × Nat × Nat) := ((F.filter (fun e => fitB dec e.2 t)).take 10).map (fun e => (e.1, cst e.1, e.2))
section KS
variable {dec : Nat → Option Dec} {pl : Int32} {K K' : Nat → List Ent} {c : Nat} {rk : Nat → Nat} {vs : List (List Nat × Nat)}
theorem catK_mem (hK : Kok K c) : ∀ (n : Nat), n ≤ c → ∀ E, E ∈ catK K n ↔ inK K n E
  | 0, _, E => ⟨(fun h => by cases h), fun h => absurd h.1 (Nat.not_lt_zero _)⟩
  | n + 1, hn, E => by
    rw [catK, List.mem_append, catK_mem hK n (by omega) E]
    unfold inK
    constructor
    · rintro (h | h)
      · exact ⟨by omega, h.2⟩
      · have := ((hK n (by omega)).2.2 E h).2.1
        rw [this]
        exact ⟨by omega, h⟩
    · rintro ⟨h1, h2⟩
      by_cases e : cst E.1 = n
      · rw [e] at h2
        exact Or.inr h2
      · exact Or.inl ⟨by omega, h2⟩
theorem catK_len (hK : Kok K c) : ∀ (n : Nat), n ≤ c → (catK K n).length ≤ 8 * n
  | 0, _ => Nat.le_refl _
  | n + 1, hn => by
    rw [catK, List.length_append]
    have := catK_len hK n (by omega)
    have := (hK n (by omega)).2.1
    omega
theorem catK_nodup (hK : Kok K c) : ∀ (n : Nat), n ≤ c → (catK K n).Nodup
  | 0, _ => List.nodup_nil
  | n + 1, hn => by
    rw [catK, List.nodup_append]
    refine ⟨catK_nodup hK n (by omega), srt_nodup (hK n (by omega)).1, fun E hE E' hE' e => ?_⟩
    have h1 := ((catK_mem hK n (by omega) E).mp hE).1
    have h2 := ((hK n (by omega)).2.2 E' hE').2.1
    rw [← e] at h2
    omega
theorem inK_congr {E : Ent} (h : ∀ k, k < c → K k = K' k) : inK K c E ↔ inK K' c E := by
  unfold inK
  constructor
  · rintro ⟨h1, h2⟩
    exact ⟨h1, by rw [← h _ h1]; exact h2⟩
  · rintro ⟨h1, h2⟩
    exact ⟨h1, by rw [h _ h1]; exact h2⟩
theorem Val_congr {τ : Tup} (h : ∀ k, k < c → K k = K' k) (hv : Val dec pl K c τ) : Val dec pl K' c τ := by
  obtain ⟨h1, h2, h3, h4, h5⟩ := hv
  refine ⟨h1, ?_, fun u hu => (inK_congr h).mp (h3 u hu), h4, h5⟩
  cases hr : τ.2.1 with
  | none =>
    rw [hr] at h2
    exact h2
  | some e =>
    rw [hr] at h2
    exact ⟨(inK_congr h).mp h2.1, h2.2⟩
theorem Kspec_uni {n : Nat} (h : Kspec dec pl vs K n) (h' : Kspec dec pl vs K' n) : ∀ c, c < n → K c = K' c := by
  intro c
  induction c using Nat.strongRecOn with
  | ind c ih =>
    intro hc
    have e : ∀ k, k < c → K k = K' k := fun k hk => ih k hk (by omega)
    have l1 := h c hc
    have l2 := h' c hc
    by_cases c0 : c = 0
    · rw [if_pos c0] at l1 l2
      exact L8_uni l1 l2
    · rw [if_neg c0] at l1 l2
      exact L8_uni l1 (ImT_iff l2 (fun s => ⟨Val_congr (fun k hk => (e k hk).symm), Val_congr e⟩))
theorem catK_congr {n : Nat} (h : ∀ k, k < n → K k = K' k) : catK K n = catK K' n := by
  induction n with
  | zero => rfl
  | succ n ih => rw [catK, catK, ih (fun k hk => h k (by omega)), h n (by omega)]
theorem Kspec_ok (hO : catOk dec) (hr : ranked dec rk) (hv : ∀ q ∈ vs, (∀ c ∈ q.1, 97 ≤ c ∧ c ≤ 122) ∧ 1 ≤ q.1.length ∧ q.1.length ≤ 4 ∧ q.2 < 13) : ∀ (n : Nat), Kspec dec pl vs K n → Kok K n
  | 0, _ => fun k hk => absurd hk (Nat.not_lt_zero k)
  | n + 1, h => by
    have ih := Kspec_ok hO hr hv n (fun c hc => h c (by omega))
    have hl := h n (by omega)
    by_cases n0 : n = 0
    · rw [if_pos n0] at hl
      intro k hk
      rw [show k = n by omega]
      refine ⟨hl.1, hl.2.1, fun e he => ?_⟩
      obtain ⟨m1, m2⟩ := hl.2.2.1 e he
      obtain ⟨v1, v2, v3, v4⟩ := hv e m1
      exact ⟨GT_name v1 v2, by rw [cst_low v1, n0], v4, m2, fun x hx => by have := v1 x hx; omega⟩
    · rw [if_neg n0] at hl
      exact Kok_next hO hr ih hl rfl
end KS
section CM
variable {cs : Nat → Value} {d m top sl : Nat} {dec : Nat → Option Dec} {pl : Int32} {rk : Nat → Nat} {vs : List (List Nat × Nat)}
theorem m_keepVars {σ : am_H} {i : Nat → Int32} {a : Nat → Nat → Int32} (hd : 1 < d) (hM : mo σ m i a) (hS : M_sco i a vs) (hV : distV vs) (h19 : i 19 = ii 0) (h24 : i 24 = ii 0) :
    ∃ (σ' : am_H) (i' : Nat → Int32) (a' : Nat → Nat → Int32) (L : List Ent), am_to cd_t cs d 131 0 (am_ent 2 [.ref m]) [] σ top sl (.inl none, σ', top, sl) ∧ mo σ' m i' a' ∧ flat i' a' L ∧ L.length ≤ 8 ∧ ER i i' a a' ∧ L8 (fun e => e ∈ vs) L ∧ ∀ y, y < m ∨ m + 25 ≤ y → σ' y = σ y := by
  obtain ⟨s1, s2, s3, s4⟩ := id hS
  have hmem : ∀ k, k < vs.length → vs.getD k default ∈ vs := fun k hk => by
    rw [List.getD_eq_getElem?_getD, List.getElem?_eq_getElem hk]
    exact List.getElem_mem hk
  have loop : ∀ (n k : Nat) (σ : am_H) (i : Nat → Int32) (a : Nat → Nat → Int32) (L : List Ent), k + n = vs.length → mo σ m i a → M_sco i a vs → flat i a L → L.length ≤ 8 → i 24 = ii 0 → L8 (fun e => ∃ q, q < k ∧ e = vs.getD q default) L →
      ∃ (σ' : am_H) (i' : Nat → Int32) (a' : Nat → Nat → Int32) (L' : List Ent), am_to cd_t cs d 131 2 [some (.ref m), some (.int (ii k))] [] σ top sl (.inl none, σ', top, sl) ∧ mo σ' m i' a' ∧ flat i' a' L' ∧ L'.length ≤ 8 ∧ ER i i' a a' ∧ L8 (fun e => ∃ q, q < vs.length ∧ e = vs.getD q default) L' ∧ ∀ y, y < m ∨ m + 25 ≤ y → σ' y = σ y := by
    intro n
    induction n with
    | zero =>
      intro k σ i a L hk hM hS hF hL8 h24 hL
      rw [show k = vs.length by omega] at hL ⊢
      refine ⟨σ, i, a, L, ?_, hM, hF, hL8, ER.refl i a, hL, fun _ _ => rfl⟩
      refine x_n cd_i131_2 rfl rfl ?_
      refine x_n cd_i131_3 rfl rfl ?_
      show am_to cd_t _ _ 131 4 _ _ _ _ _ _
      refine x_getf cd_i131_4 hM.1 (congrArg (fun z => some (Value.int z)) (hS.1)) rfl ?_
      refine x_icmp_t cd_i131_7 ((ii_le (by omega) (by omega)).mpr (Nat.le_refl _)) ?_
      exact x_end cd_i131_42 rfl rfl rfl
    | succ n ih =>
      intro k σ i a L hk hM hS hF hL8 h24 hL
      have hkl : k < vs.length := by omega
      obtain ⟨v1, v2, v3, v4⟩ := s3 _ (hmem k hkl)
      have hrow := hS.2.2.2 k hkl
      have h1 := hM.put (upd i 25 (ii 0))
      obtain ⟨t1, j1, b1, p1, p2, p3, p4, p5⟩ := m_writeName (cs := cs) (d := d - 1) (top := top) (sl := sl) (v := (vs.getD k default).1) (by omega) h1 (show mk (upd i 25 (ii 0)) a [] from ⟨upd_eq, by decide, fun k hk => absurd hk (Nat.not_lt_zero k)⟩) (by decide) v1 v2 v3
      rw [List.nil_append] at p3
      have W1 : WR i j1 a b1 := (show WR i (upd i 25 (ii 0)) a a from ⟨fun q hq => upd_ne hq, fun _ _ => rfl⟩).trans p4
      have F1 : flat j1 b1 ([] ++ L) := by
        refine ⟨(W1.1 19 (by decide)).trans hF.1, hF.2.1, fun e he => ?_⟩
        have := hF.2.2 e he
        unfold krow at this ⊢
        rw [W1.2 14 (by decide), W1.2 15 (by decide), W1.2 16 (by decide), W1.2 17 (by decide)]
        exact this
      obtain ⟨t2, j2, b2, q1, q2, q3, q4, q5, q6⟩ := m_keep (cs := cs) (d := d - 1) (top := top) (sl := sl) (O := []) (L := L) (t := (vs.getD k default).2) (by omega) p2 F1 ((W1.1 24 (by decide)).trans h24) (by decide) hL8 p3 (fun x hx => by have := v1 x hx; omega)
      rw [cst_low v1] at q1
      rw [List.nil_append] at q3
      have er : ER i j2 a b2 := ⟨fun q h1 h2 => (q4 q h1).trans (W1.1 q h2), fun k hk => (q5 k (by omega)).trans (W1.2 k (by omega))⟩
      have S2 : M_sco j2 b2 vs := ⟨(er.1 15 (by decide) (by decide)).trans hS.1, s2, s3, fun j hj => by rw [er.2 12 (by decide), er.2 13 (by decide)]; exact hS.2.2.2 j hj⟩
      have hL' : L8 (fun e => ∃ q, q < k + 1 ∧ e = vs.getD q default) (ins L ((vs.getD k default).1, (vs.getD k default).2)) := by
        refine L8_iff (L8_ins hL (fun x ⟨q, hq, e⟩ z => ?_)) (fun x => ?_)
        · rw [e] at z
          have := hV q k (by omega) hkl z
          omega
        · constructor
          · rintro (⟨q, hq, e⟩ | e)
            · exact ⟨q, by omega, e⟩
            · exact ⟨k, by omega, e⟩
          · rintro ⟨q, hq, e⟩
            by_cases eq : q = k
            · rw [eq] at e
              exact Or.inr e
            · exact Or.inl ⟨q, by omega, e⟩
      obtain ⟨t3, j3, b3, L3, r1, r2, r3, r4, r5, r6, r7⟩ := ih (k + 1) t2 j2 b2 _ (by omega) q2 S2 q3 (ins_len hL8) ((er.1 24 (by decide) (by decide)).trans h24) hL'
      refine ⟨t3, j3, b3, L3, ?_, r2, r3, r4, er.trans r5, r6, fun y hy => by rw [r7 y hy, q6 y hy, p5 y hy, am_up_ne _ _ (by omega)]⟩
      refine x_n cd_i131_2 rfl rfl ?_
      refine x_n cd_i131_3 rfl rfl ?_
      show am_to cd_t _ _ 131 4 _ _ _ _ _ _
      refine x_getf cd_i131_4 hM.1 (congrArg (fun z => some (Value.int z)) (hS.1)) rfl ?_
      refine x_icmp_f cd_i131_7 (fun z => by have := (ii_le (by omega) (by omega)).mp (show ii vs.length ≤ ii k from z); omega) ?_
      refine x_n cd_i131_10 rfl rfl ?_
      refine x_ic cd_i131_11 (z := ii 0) rfl ?_
      show am_to cd_t _ _ 131 12 _ _ _ _ _ _
      refine x_putf cd_i131_12 (fs' := mo_f m (upd i 25 (ii 0))) hM.1 rfl rfl rfl ?_
      refine x_n cd_i131_15 rfl rfl ?_
      refine x_n cd_i131_16 rfl rfl ?_
      refine x_getf cd_i131_17 h1.1 rfl rfl ?_
      refine x_n cd_i131_20 rfl rfl ?_
      show am_to cd_t _ _ 131 21 _ _ _ _ _ _
      refine x_iald cd_i131_21 (h1.2 12 (by decide) (by decide)) (show _ < 5 by omega) (by decide) (hrow.1) ?_
      refine x_callv (as' := [.int (ii (n27 (vs.getD k default).1))]) (r := none) cd_i131_22 h1.1 (by omega) rfl rfl rfl rfl rfl rfl (p1) ?_
      refine x_n cd_i131_25 rfl rfl ?_
      refine x_ic cd_i131_26 (z := ii 0) rfl ?_
      refine x_n cd_i131_27 rfl rfl ?_
      refine x_getf cd_i131_28 p2.1 rfl rfl ?_
      refine x_n cd_i131_31 rfl rfl ?_
      show am_to cd_t _ _ 131 32 _ _ _ _ _ _
      refine x_iald (z := ii (vs.getD k default).2) cd_i131_32 (p2.2 13 (by decide) (by decide)) (show k < 5 by omega) (by decide) (by rw [W1.2 13 (by decide)]; exact hrow.2) ?_
      refine x_callv (as' := [.int (ii 0), .int (ii (vs.getD k default).2)]) (r := none) cd_i131_33 p2.1 (by omega) rfl rfl rfl rfl rfl rfl (q1) ?_
      refine x_iinc cd_i131_36 rfl (ii_add _ 1) rfl ?_
      try dsimp only [List.set]
      refine x_n cd_i131_39 rfl rfl ?_
      show am_to cd_t _ _ 131 2 _ _ _ _ _ _
      exact r1
  obtain ⟨t3, j3, b3, L3, r1, r2, r3, r4, r5, r6, r7⟩ := loop vs.length 0 σ i a [] (Nat.zero_add _) hM hS ⟨h19, by decide, fun e he => absurd he (Nat.not_lt_zero e)⟩ (by decide) h24 (L8_nil (fun x ⟨q, hq, _⟩ => absurd hq (Nat.not_lt_zero q)))
  refine ⟨t3, j3, b3, L3, ?_, r2, r3, r4, r5, L8_iff r6 (fun x => ⟨fun ⟨q, hq, e⟩ => by rw [e]; exact hmem q hq, fun h => ?_⟩), r7⟩
  · refine x_ic cd_i131_0 (z := ii 0) rfl ?_
    refine x_n cd_i131_1 rfl rfl ?_
    try dsimp only [List.set]
    show am_to cd_t _ _ 131 2 _ _ _ _ _ _
    exact r1
  · obtain ⟨q, hq, e⟩ := List.getElem_of_mem h
    refine ⟨q, hq, ?_⟩
    rw [List.getD_eq_getElem?_getD, List.getElem?_eq_getElem hq, ← e]
    rfl
/-- a proposal more -/
theorem m_propose {σ : am_H} {i : Nat → Int32} {a : Nat → Nat → Int32} {pr : List (List Nat × Nat × Nat)} {e : Nat} {E : Ent} (hM : mo σ m i a) (hP : M_pr i a pr) (hl : pr.length < 10) (he : e < 33) (hE : krow a e E) :
    ∃ (σ' : am_H) (i' : Nat → Int32) (a' : Nat → Nat → Int32), am_to cd_t cs d 145 0 (am_ent 3 [.ref m, .int (ii e)]) [] σ top sl (.inl none, σ', top, sl) ∧ mo σ' m i' a' ∧ M_pr i' a' (pr ++ [(E.1, cst E.1, E.2)]) ∧ (∀ q, q ≠ 27 → i' q = i q) ∧ (∀ k, k < 19 ∨ 22 < k → a' k = a k) ∧ ∀ y, y < m ∨ m + 25 ≤ y → σ' y = σ y := by
  obtain ⟨p1, p2, p3⟩ := id hP
  obtain ⟨e1, e2, e3, e4, e5, e6⟩ := id hE
  have m1 := hM.sto 19 (by decide) (by decide) (upd (a 19) pr.length (ii (cst E.1)))
  have m2 := m1.sto 20 (by decide) (by decide) (upd (a 20) pr.length (ii E.2))
  have m3 := m2.sto 21 (by decide) (by decide) (upd (a 21) pr.length (ii E.1.length))
  obtain ⟨s3, hs3⟩ : ∃ z, z = am_up (am_up (am_up σ (m + 19) (.inl (mo_ty 19, mo_sz 19, .inl (upd (a 19) pr.length (ii (cst E.1)))))) (m + 20) (.inl (mo_ty 20, mo_sz 20, .inl (upd (a 20) pr.length (ii E.2))))) (m + 21) (.inl (mo_ty 21, mo_sz 21, .inl (upd (a 21) pr.length (ii E.1.length)))) := ⟨_, rfl⟩
  rw [← hs3] at m3
  generalize ha3 : updA (updA (updA a 19 (upd (a 19) pr.length (ii (cst E.1)))) 20 (upd (a 20) pr.length (ii E.2))) 21 (upd (a 21) pr.length (ii E.1.length)) = a3 at m3
  have x19 : a3 19 = upd (a 19) pr.length (ii (cst E.1)) := by rw [← ha3, updA_ne (by decide), updA_ne (by decide), updA_eq]
  have x20 : a3 20 = upd (a 20) pr.length (ii E.2) := by rw [← ha3, updA_ne (by decide), updA_eq]
  have x21 : a3 21 = upd (a 21) pr.length (ii E.1.length) := by rw [← ha3, updA_eq]
  have o3 : ∀ k, k < 19 ∨ 21 < k → a3 k = a k := fun k hk => by rw [← ha3, updA_ne (by omega), updA_ne (by omega), updA_ne (by omega)]
  have f3 : ∀ x, x < m ∨ m + 25 ≤ x → s3 x = σ x := fun x hx => by rw [hs3, am_up_ne _ _ (by omega), am_up_ne _ _ (by omega), am_up_ne _ _ (by omega)]
  have loop : ∀ (n k : Nat) (σ : am_H) (b : Nat → Nat → Int32), k + n = 24 → mo σ m i b → (∀ q, q ≠ 22 → b q = a3 q) → (∀ q, (q < 24 * pr.length ∨ 24 * pr.length + 24 ≤ q) → b 22 q = a 22 q) → (∀ j, j < k → j < E.1.length → b 22 (24 * pr.length + j) = ii (E.1.getD j 0)) →
      ∃ (σ' : am_H) (b' : Nat → Nat → Int32) (v2 : Option Value), mo σ' m i b' ∧ (∀ q, q ≠ 22 → b' q = a3 q) ∧ (∀ q, (q < 24 * pr.length ∨ 24 * pr.length + 24 ≤ q) → b' 22 q = a 22 q) ∧ (∀ j, j < E.1.length → b' 22 (24 * pr.length + j) = ii (E.1.getD j 0)) ∧ (∀ x, x < m ∨ m + 25 ≤ x → σ' x = σ x) ∧ ∀ res, am_to cd_t cs d 145 84 [some (.ref m), some (.int (ii e)), v2] [] σ' top sl res → am_to cd_t cs d 145 47 [some (.ref m), some (.int (ii e)), some (.int (ii k))] [] σ top sl res := by
    intro n
    induction n with
    | zero =>
      intro k σ b hk hM h1 h2 h3
      refine ⟨σ, b, some (.int (ii k)), hM, h1, h2, fun j hj => h3 j (by omega) hj, fun _ _ => rfl, fun res hh => ?_⟩
      refine x_n cd_i145_47 rfl rfl ?_
      refine x_bi cd_i145_48 (z := ii 24) (by decide) ?_
      show am_to cd_t _ _ 145 50 _ _ _ _ _ _
      exact x_icmp_t cd_i145_50 ((ii_le (by decide) (by omega)).mpr (by omega)) hh
    | succ n ih =>
      intro k σ b hk hM h1 h2 h3
      have m4 := hM.sto 22 (by decide) (by decide) (upd (b 22) (24 * pr.length + k) (vp_nar .char (b 17 (24 * e + k))))
      obtain ⟨s2, a2, v2, c1, c2, c3, c4, c5, c6⟩ := ih (k + 1) _ _ (by omega) m4 (fun q hq => by rw [updA_ne hq]; exact h1 q hq) (fun q hq => by rw [updA_eq, upd_ne (by omega)]; exact h2 q hq) (fun j hj1 hj2 => by
        rw [updA_eq]
        by_cases ej : j = k
        · have hv : b 17 (24 * e + k) = ii (E.1.getD k 0) := by
            rw [h1 17 (by decide), o3 17 (by decide)]
            exact e6 k (by omega)
          rw [ej, upd_eq, hv, nar_char_ii (by have := getD_let e5 (show k < E.1.length by omega); omega)]
        · rw [upd_ne (by omega)]
          exact h3 j (by omega) hj2)
      refine ⟨s2, a2, v2, c1, c2, c3, c4, fun x hx => (c5 x hx).trans (am_up_ne _ _ (by omega)), fun res hh => ?_⟩
      refine x_n cd_i145_47 rfl rfl ?_
      refine x_bi cd_i145_48 (z := ii 24) (by decide) ?_
      show am_to cd_t _ _ 145 50 _ _ _ _ _ _
      refine x_icmp_f cd_i145_50 (fun z => by have := (ii_le (by decide) (by omega)).mp (show ii 24 ≤ ii k from z); omega) ?_
      refine x_n cd_i145_53 rfl rfl ?_
      refine x_getf cd_i145_54 hM.1 rfl rfl ?_
      refine x_bi cd_i145_57 (z := ii 24) (by decide) ?_
      refine x_n cd_i145_59 rfl rfl ?_
      show am_to cd_t _ _ 145 60 _ _ _ _ _ _
      refine x_getf cd_i145_60 hM.1 (congrArg (fun z => some (Value.int z)) (p1)) rfl ?_
      refine x_imul cd_i145_63 (ii_mul _ _) ?_
      refine x_n cd_i145_64 rfl rfl ?_
      refine x_iadd cd_i145_65 (ii_add _ _) ?_
      refine x_n cd_i145_66 rfl rfl ?_
      refine x_getf cd_i145_67 hM.1 rfl rfl ?_
      refine x_bi cd_i145_70 (z := ii 24) (by decide) ?_
      refine x_n cd_i145_72 rfl rfl ?_
      refine x_imul cd_i145_73 (ii_mul _ _) ?_
      refine x_n cd_i145_74 rfl rfl ?_
      refine x_iadd cd_i145_75 (ii_add _ _) ?_
      show am_to cd_t _ _ 145 76 _ _ _ _ _ _
      refine x_cald cd_i145_76 (hM.2 17 (by decide) (by decide)) (show _ < 792 by omega) (by decide) (rfl) ?_
      refine x_castore cd_i145_77 (hM.2 22 (by decide) (by decide)) (show _ < 240 by omega) (by decide) ?_
      refine x_iinc cd_i145_78 rfl (ii_add _ 1) rfl ?_
      try dsimp only [List.set]
      refine x_n cd_i145_81 rfl rfl ?_
      show am_to cd_t _ _ 145 47 _ _ _ _ _ _
      exact c6 res hh
  obtain ⟨s4, a4, v2, c1, c2, c3, c4, c5, c6⟩ := loop 24 0 s3 a3 rfl m3 (fun _ _ => rfl) (fun q hq => by rw [o3 22 (by decide)]) (fun j hj => absurd hj (Nat.not_lt_zero j))
  have m5 := c1.put (upd i 27 (ii (pr.length + 1)))
  have el : (pr ++ [(E.1, cst E.1, E.2)]).length = pr.length + 1 := List.length_append
  refine ⟨_, _, a4, ?_, m5, ⟨by rw [el, upd_eq], by omega, fun q hq => ?_⟩, fun q hq => upd_ne hq, fun k hk => (c2 k (by omega)).trans (o3 k (by omega)), fun y hy => by rw [am_up_ne _ _ (by omega), c5 y hy, f3 y hy]⟩
  · refine x_n cd_i145_0 rfl rfl ?_
    refine x_getf cd_i145_1 hM.1 rfl rfl ?_
    refine x_n cd_i145_4 rfl rfl ?_
    show am_to cd_t _ _ 145 5 _ _ _ _ _ _
    refine x_getf cd_i145_5 hM.1 (congrArg (fun z => some (Value.int z)) (p1)) rfl ?_
    refine x_n cd_i145_8 rfl rfl ?_
    refine x_getf cd_i145_9 hM.1 rfl rfl ?_
    refine x_n cd_i145_12 rfl rfl ?_
    show am_to cd_t _ _ 145 13 _ _ _ _ _ _
    refine x_iald cd_i145_13 (hM.2 14 (by decide) (by decide)) (show _ < 33 by omega) (by decide) (e1) ?_
    refine x_iastore cd_i145_14 (hM.2 19 (by decide) (by decide)) (show _ < 10 by omega) (by decide) ?_
    refine x_n cd_i145_15 rfl rfl ?_
    refine x_getf cd_i145_16 m1.1 rfl rfl ?_
    refine x_n cd_i145_19 rfl rfl ?_
    show am_to cd_t _ _ 145 20 _ _ _ _ _ _
    refine x_getf cd_i145_20 m1.1 (congrArg (fun z => some (Value.int z)) (p1)) rfl ?_
    refine x_n cd_i145_23 rfl rfl ?_
    refine x_getf cd_i145_24 m1.1 rfl rfl ?_
    refine x_n cd_i145_27 rfl rfl ?_
    show am_to cd_t _ _ 145 28 _ _ _ _ _ _
    refine x_iald cd_i145_28 (m1.2 15 (by decide) (by decide)) (show _ < 33 by omega) (by decide) (e2) ?_
    refine x_iastore cd_i145_29 (m1.2 20 (by decide) (by decide)) (show _ < 10 by omega) (by decide) ?_
    refine x_n cd_i145_30 rfl rfl ?_
    refine x_getf cd_i145_31 m2.1 rfl rfl ?_
    refine x_n cd_i145_34 rfl rfl ?_
    show am_to cd_t _ _ 145 35 _ _ _ _ _ _
    refine x_getf cd_i145_35 m2.1 (congrArg (fun z => some (Value.int z)) (p1)) rfl ?_
    refine x_n cd_i145_38 rfl rfl ?_
    refine x_getf cd_i145_39 m2.1 rfl rfl ?_
    refine x_n cd_i145_42 rfl rfl ?_
    show am_to cd_t _ _ 145 43 _ _ _ _ _ _
    refine x_iald cd_i145_43 (m2.2 16 (by decide) (by decide)) (show _ < 33 by omega) (by decide) (e3) ?_
    refine x_iastore cd_i145_44 (m2.2 21 (by decide) (by decide)) (show _ < 10 by omega) (by decide) ?_
    refine hs3 ▸ ?_
    refine x_ic cd_i145_45 (z := ii 0) rfl ?_
    refine x_n cd_i145_46 rfl rfl ?_
    try dsimp only [List.set]
    show am_to cd_t _ _ 145 47 _ _ _ _ _ _
    refine c6 _ ?_
    refine x_n cd_i145_84 rfl rfl ?_
    refine x_n cd_i145_85 rfl rfl ?_
    show am_to cd_t _ _ 145 86 _ _ _ _ _ _
    refine x_getf cd_i145_86 c1.1 (congrArg (fun z => some (Value.int z)) (p1)) rfl ?_
    refine x_ic cd_i145_89 (z := ii 1) rfl ?_
    refine x_iadd cd_i145_90 (ii_add _ _) ?_
    show am_to cd_t _ _ 145 91 _ _ _ _ _ _
    refine x_putf cd_i145_91 (fs' := mo_f m (upd i 27 (ii (pr.length + 1)))) c1.1 rfl rfl rfl ?_
    exact x_end cd_i145_94 rfl rfl rfl
  · rw [el] at hq
    rw [c2 19 (by decide), c2 20 (by decide), c2 21 (by decide), x19, x20, x21, List.getD_eq_getElem?_getD]
    by_cases eq : q = pr.length
    · rw [eq, List.getElem?_append_right (Nat.le_refl _), Nat.sub_self, upd_eq, upd_eq, upd_eq]
      exact ⟨rfl, e4, rfl, rfl, c4⟩
    · rw [List.getElem?_append_left (by omega), ← List.getD_eq_getElem?_getD, upd_ne eq, upd_ne eq, upd_ne eq]
      obtain ⟨z1, z2, z3, z4, z5⟩ := p3 q (by omega)
      exact ⟨z1, z2, z3, z4, fun k hk => (c3 _ (by omega)).trans (z5 k hk)⟩
end CM
