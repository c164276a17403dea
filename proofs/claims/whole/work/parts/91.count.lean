def pS (dec : Nat → Option Dec) (pl : Int32) (c k x j : Nat) : Bool := ((memsOf dec x).getD j default).1 == k && snB dec pl c x j
def cS (dec : Nat → Option Dec) (pl : Int32) (c k : Nat) (l : List Nat) : Nat := (l.map fun x => cF (pS dec pl c k x) 0 (memsOf dec x).length).sum
def seenM (dec : Nat → Option Dec) (pl : Int32) (c w : Int32) : Int32 := if (0 ≤ c.toInt ∧ c.toInt < 10) ∧ 0 ≤ w.toInt ∧ w.toInt ≤ 1 then ii (cS dec pl c.toNatClampNeg w.toNatClampNeg (chain dec 11 c.toNatClampNeg)) else -1
section SF
variable {cs : Nat → Value} {d b top sl : Nat} {σ : am_H} {ad : Nat → Nat} {hi : Nat} {dec : Nat → Option Dec} {pl : Int32} {da : Nat → Nat} {ea : Nat → Nat → Nat} {rk : Nat → Nat}
theorem x_count_in {c k x : Nat} {D : Dec} (hd : 3 < d) (hcs : csOk cs ad) (hC : X_cat ad σ b hi dec pl da ea) (hO : catOk dec) (hr : ranked dec rk) (hc : c < 10) (hk : k < 3) (hD : dec x = some D) :
    ∀ (n j acc : Nat), j + n = D.2.length → ∃ v5 : Option Value, ∀ res, am_to cd_t cs d 25 67 [some (.ref (b + 3)), some (.int (ii c)), some (.ref (ad k)), some (.int (ii (acc + cF (pS dec pl c k x) j n))), some (.ref (da x)), v5] [] σ top sl res → am_to cd_t cs d 25 17 [some (.ref (b + 3)), some (.int (ii c)), some (.ref (ad k)), some (.int (ii acc)), some (.ref (da x)), some (.int (ii j))] [] σ top sl res := by
  have hx := (hr x D hD).1
  obtain ⟨q1, q2, qr, qg, q3, q4, q5, q6, q7, q8⟩ := hC.2.2.1 x D hx hD
  have emem : memsOf dec x = D.2 := by unfold memsOf; rw [hD]
  intro n
  induction n with
  | zero =>
    intro j acc hj
    refine ⟨some (.int (ii j)), fun res hh => ?_⟩
    refine x_n cd_i25_17 rfl rfl ?_
    refine x_n cd_i25_19 rfl rfl ?_
    refine x_getf cd_i25_21 (by assumption) rfl rfl ?_
    show am_to cd_t _ _ 25 24 _ _ _ _ _ _
    exact x_icmp_t cd_i25_24 ((ii_le (by omega) (by omega)).mpr (by omega)) hh
  | succ n ih =>
    intro j acc hj
    have hjl : j < D.2.length := by omega
    obtain ⟨e1, e2⟩ := q8 j hjl
    obtain ⟨m1, m2, mp, mf, m3, m4, m5, m6, m7, m8⟩ := id e2
    have hok := (hO x D hD).2.1 _ (getD_mem hjl)
    have hs := x_isSeen (cs := cs) (d := d - 1) (top := top) (sl := sl) (c := c) (by omega) hcs hC hO hr hc hD hjl
    have step : ∀ res (z : Nat), z = (if pS dec pl c k x j = true then 1 else 0) → am_to cd_t cs d 25 61 [some (.ref (b + 3)), some (.int (ii c)), some (.ref (ad k)), some (.int (ii (acc + z))), some (.ref (da x)), some (.int (ii j))] [] σ top sl res → am_to cd_t cs d 25 17 [some (.ref (b + 3)), some (.int (ii c)), some (.ref (ad k)), some (.int (ii acc)), some (.ref (da x)), some (.int (ii j))] [] σ top sl res := by
      intro res z hz hh
      refine x_n cd_i25_17 rfl rfl ?_
      refine x_n cd_i25_19 rfl rfl ?_
      refine x_getf cd_i25_21 (by assumption) rfl rfl ?_
      show am_to cd_t _ _ 25 24 _ _ _ _ _ _
      refine x_icmp_f cd_i25_24 (fun z => by have := (ii_le (by omega) (by omega)).mp (show ii D.2.length ≤ ii j from z); omega) ?_
      refine x_n cd_i25_27 rfl rfl ?_
      refine x_getf cd_i25_29 (by assumption) rfl rfl ?_
      refine x_n cd_i25_32 rfl rfl ?_
      show am_to cd_t _ _ 25 34 _ _ _ _ _ _
      refine x_aaload cd_i25_34 q6 (show j < 6 by omega) (by decide) ?_
      rw [e1]
      refine x_getf cd_i25_35 m5 rfl rfl ?_
      refine x_n cd_i25_38 rfl rfl ?_
      show am_to cd_t _ _ 25 39 _ _ _ _ _ _
      refine x_acne cd_i25_39 (fun y => ?_) (fun y => ?_)
      · have ek := hcs.2.2.2.2.2 _ _ hok.1 hk y
        have ep : pS dec pl c k x j = snB dec pl c x j := by
          unfold pS
          rw [emem, beq_iff_eq.mpr ek, Bool.true_and]
        rw [ep] at hz
        refine x_n cd_i25_42 rfl rfl ?_
        refine x_n cd_i25_43 rfl rfl ?_
        refine x_n cd_i25_44 rfl rfl ?_
        refine x_getf cd_i25_46 (by assumption) rfl rfl ?_
        refine x_n cd_i25_49 rfl rfl ?_
        show am_to cd_t _ _ 25 51 _ _ _ _ _ _
        refine x_aaload cd_i25_51 q6 (show j < 6 by omega) (by decide) ?_
        rw [e1]
        refine x_callv (as' := [.int (ii c), .ref (ea x j)]) cd_i25_52 hC.1 (by omega) rfl rfl rfl rfl rfl rfl hs ?_
        cases hb : snB dec pl c x j with
        | true =>
          rw [hb, if_pos rfl] at hz
          rw [hz] at hh
          refine x_if_f cd_i25_55 (fun z => absurd (show (1 : Int32) = 0 from z) (by decide)) ?_
          refine x_iinc cd_i25_58 rfl (ii_add _ 1) rfl ?_
          exact hh
        | false =>
          rw [hb, if_neg (by decide)] at hz
          rw [hz] at hh
          exact x_if_t cd_i25_55 rfl hh
      · have ek : ¬ (D.2.getD j default).1 = k := fun w => y (by rw [w])
        have ep : pS dec pl c k x j = false := by
          unfold pS
          rw [emem, beq_eq_false_iff_ne.mpr ek, Bool.false_and]
        rw [ep, if_neg (by decide)] at hz
        rw [hz] at hh
        exact hh
    obtain ⟨v5, hv⟩ := ih (j + 1) (acc + (if pS dec pl c k x j = true then 1 else 0)) (by omega)
    refine ⟨v5, fun res hh => step res _ rfl ?_⟩
    refine x_iinc cd_i25_61 rfl (ii_add _ 1) rfl ?_
    refine x_n cd_i25_64 rfl rfl ?_
    show am_to cd_t _ _ 25 17 _ _ _ _ _ _
    refine hv res ?_
    rw [Nat.add_assoc]
    exact hh
theorem x_count_loop {c k : Nat} (hd : 3 < d) (hcs : csOk cs ad) (hC : X_cat ad σ b hi dec pl da ea) (hO : catOk dec) (hr : ranked dec rk) (hc : c < 10) (hk : k < 3) :
    ∀ (n x acc : Nat) (D : Dec) (v5 : Option Value), deep dec n x → dec x = some D → am_to cd_t cs d 25 9 [some (.ref (b + 3)), some (.int (ii c)), some (.ref (ad k)), some (.int (ii acc)), some (.ref (da x)), v5] [] σ top sl (.inl (some (.int (ii (acc + cS dec pl c k (chain dec n x))))), σ, top, sl)
  | 0, x, acc, D, v5, h, _ => absurd h id
  | n + 1, x, acc, D, v5, ⟨hx, hdeep⟩, hD => by
    obtain ⟨q1, q2, qr, qg, q3, q4, q5, q6, q7, q8⟩ := hC.2.2.1 x D hx hD
    have ech : chain dec (n + 1) x = x :: (match D.1 with | none => [] | some p => chain dec n p) := by
      rw [chain_succ]
      unfold abv
      rw [hD]
      rfl
    have emem : memsOf dec x = D.2 := by unfold memsOf; rw [hD]
    have ecs : cS dec pl c k (chain dec (n + 1) x) = cF (pS dec pl c k x) 0 D.2.length + cS dec pl c k (match D.1 with | none => [] | some p => chain dec n p) := by
      rw [ech]
      unfold cS
      rw [List.map_cons, List.sum_cons, emem]
    obtain ⟨v5', hin⟩ := x_count_in (cs := cs) (d := d) (top := top) (sl := sl) (c := c) (k := k) hd hcs hC hO hr hc hk hD D.2.length 0 acc (Nat.zero_add _)
    rw [ecs, ← Nat.add_assoc]
    refine x_n cd_i25_9 rfl rfl ?_
    show am_to cd_t _ _ 25 11 _ _ _ _ _ _
    refine x_null_f cd_i25_11 ?_
    refine x_ic cd_i25_14 (z := ii 0) rfl ?_
    refine x_n cd_i25_15 rfl rfl ?_
    try dsimp only [List.set]
    show am_to cd_t _ _ 25 17 _ _ _ _ _ _
    refine hin _ ?_
    cases hp : D.1 with
    | none =>
      rw [hp] at q5
      refine x_n cd_i25_67 rfl rfl ?_
      show am_to cd_t _ _ 25 69 _ _ _ _ _ _
      refine x_getf cd_i25_69 q5 rfl rfl ?_
      refine x_n cd_i25_72 rfl rfl ?_
      try dsimp only [List.set]
      refine x_n cd_i25_74 rfl rfl ?_
      refine x_n cd_i25_9 rfl rfl ?_
      show am_to cd_t _ _ 25 11 _ _ _ _ _ _
      refine x_null_t cd_i25_11 ?_
      refine x_n cd_i25_77 rfl rfl ?_
      show am_to cd_t _ _ 25 78 _ _ _ _ _ _
      exact x_end cd_i25_78 rfl rfl rfl
    | some p =>
      rw [hp] at q5
      obtain ⟨D', hD'⟩ := ((hr x D hD).2.2 p hp).2.1
      refine x_n cd_i25_67 rfl rfl ?_
      show am_to cd_t _ _ 25 69 _ _ _ _ _ _
      refine x_getf cd_i25_69 q5 rfl rfl ?_
      refine x_n cd_i25_72 rfl rfl ?_
      try dsimp only [List.set]
      refine x_n cd_i25_74 rfl rfl ?_
      show am_to cd_t _ _ 25 9 _ _ _ _ _ _
      exact x_count_loop hd hcs hC hO hr hc hk n p _ D' v5' (hdeep D p hD hp) hD'
theorem x_countSeen {c k : Nat} (hd : 3 < d) (hcs : csOk cs ad) (hC : X_cat ad σ b hi dec pl da ea) (hO : catOk dec) (hr : ranked dec rk) (hc : c < 10) (hk : k < 3) :
    am_to cd_t cs d 25 0 (am_ent 6 [.ref (b + 3), .int (ii c), .ref (ad k)]) [] σ top sl (.inl (some (.int (ii (cS dec pl c k (chain dec 11 c))))), σ, top, sl) := by
  have h := x_declO (cs := cs) (d := d - 1) (top := top) (sl := sl) (o := some c) hC (fun q hq => by rw [← Option.some.inj hq]; exact hc)
  have h : am_to cd_t cs (d - 1) 22 0 (am_ent 2 [.ref (b + 3), .int (ii c)]) [] σ top sl (.inl (some (va_rf ((dec c).map fun _ => da c))), σ, top, sl) := h
  cases hD : dec c with
  | none =>
    rw [hD] at h
    have e : cS dec pl c k (chain dec 11 c) = 0 := by
      rw [chain_succ]
      unfold abv cS memsOf
      rw [hD]
      show (List.map _ [c]).sum = 0
      rw [List.map_singleton, hD]
      rfl
    rw [e]
    refine x_ic cd_i25_0 (z := ii 0) rfl ?_
    refine x_n cd_i25_1 rfl rfl ?_
    try dsimp only [List.set]
    refine x_n cd_i25_2 rfl rfl ?_
    refine x_n cd_i25_3 rfl rfl ?_
    show am_to cd_t _ _ 25 4 _ _ _ _ _ _
    refine x_callv (as' := [.int (ii c)]) cd_i25_4 hC.1 (by omega) rfl rfl rfl rfl rfl rfl h ?_
    refine x_n cd_i25_7 rfl rfl ?_
    try dsimp only [List.set]
    refine x_n cd_i25_9 rfl rfl ?_
    show am_to cd_t _ _ 25 11 _ _ _ _ _ _
    refine x_null_t cd_i25_11 ?_
    refine x_n cd_i25_77 rfl rfl ?_
    show am_to cd_t _ _ 25 78 _ _ _ _ _ _
    exact x_end cd_i25_78 rfl rfl rfl
  | some D =>
    rw [hD] at h
    refine x_ic cd_i25_0 (z := ii 0) rfl ?_
    refine x_n cd_i25_1 rfl rfl ?_
    try dsimp only [List.set]
    refine x_n cd_i25_2 rfl rfl ?_
    refine x_n cd_i25_3 rfl rfl ?_
    show am_to cd_t _ _ 25 4 _ _ _ _ _ _
    refine x_callv (as' := [.int (ii c)]) cd_i25_4 hC.1 (by omega) rfl rfl rfl rfl rfl rfl h ?_
    refine x_n cd_i25_7 rfl rfl ?_
    try dsimp only [List.set]
    show am_to cd_t _ _ 25 9 _ _ _ _ _ _
    have := x_count_loop (cs := cs) (d := d) (top := top) (sl := sl) (c := c) (k := k) hd hcs hC hO hr hc hk 11 c 0 D none (deep_11 hr hc) hD
    rw [Nat.zero_add] at this
    exact this
theorem x_isClass2 {c : Int32} : am_to cd_t cs d 24 0 (am_ent 1 [.int c]) [] σ top sl (.inl (some (.int (if 0 ≤ c.toInt ∧ c.toInt < 10 then 1 else 0))), σ, top, sl) := by
  refine x_n cd_i24_0 rfl rfl ?_
  show am_to cd_t _ _ 24 1 _ _ _ _ _ _
  refine x_if cd_i24_1 (fun z => ?_) (fun z => ?_)
  · have := neg_iff.mp (show c < 0 from z)
    rw [if_neg (by omega)]
    refine x_ic cd_i24_14 (z := ii 0) rfl ?_
    show am_to cd_t _ _ 24 15 _ _ _ _ _ _
    exact x_end cd_i24_15 rfl rfl rfl
  · have z1 := mt neg_iff.mpr (show ¬ c < 0 from z)
    refine x_n cd_i24_4 rfl rfl ?_
    refine x_bi cd_i24_5 (z := ii 10) (by decide) ?_
    show am_to cd_t _ _ 24 7 _ _ _ _ _ _
    refine x_icmp cd_i24_7 (fun y => ?_) (fun y => ?_)
    · have := (c_le (by decide)).mp (show ii 10 ≤ c from y)
      rw [if_neg (by omega)]
      refine x_ic cd_i24_14 (z := ii 0) rfl ?_
      show am_to cd_t _ _ 24 15 _ _ _ _ _ _
      exact x_end cd_i24_15 rfl rfl rfl
    · have y1 := mt (c_le (n := c) (k := 10) (by decide)).mpr y
      rw [if_pos (by omega)]
      refine x_ic cd_i24_10 (z := ii 1) rfl ?_
      refine x_n cd_i24_11 rfl rfl ?_
      show am_to cd_t _ _ 24 15 _ _ _ _ _ _
      exact x_end cd_i24_15 rfl rfl rfl
theorem x_seen {c w : Int32} {v : Value} (hd : 4 < d) (hx : X_o σ b v) (hcs : csOk cs ad) (hC : X_cat ad σ b hi dec pl da ea) (hO : catOk dec) (hr : ranked dec rk) :
    am_to cd_t cs d 23 0 (am_ent 3 [.ref b, .int c, .int w]) [] σ top sl (.inl (some (.int (seenM dec pl c w))), σ, top, sl) := by
  have no : seenM dec pl c w = -1 → am_to cd_t cs d 23 16 [some (.ref b), some (.int c), some (.int w)] [] σ top sl (.inl (some (.int (seenM dec pl c w))), σ, top, sl) := by
    intro z
    rw [z]
    refine x_ic cd_i23_16 (z := (-1)) rfl ?_
    show am_to cd_t _ _ 23 17 _ _ _ _ _ _
    exact x_end cd_i23_17 rfl rfl rfl
  refine x_n cd_i23_0 rfl rfl ?_
  show am_to cd_t _ _ 23 1 _ _ _ _ _ _
  refine x_calls (as := [.int c]) cd_i23_1 (by omega) rfl rfl rfl rfl rfl rfl x_isClass2 ?_
  by_cases hc : 0 ≤ c.toInt ∧ c.toInt < 10
  · rw [if_pos hc]
    refine x_if_f cd_i23_4 (fun z => absurd (show (1 : Int32) = 0 from z) (by decide)) ?_
    refine x_n cd_i23_7 rfl rfl ?_
    show am_to cd_t _ _ 23 8 _ _ _ _ _ _
    refine x_if cd_i23_8 (fun z => no ?_) (fun z => ?_)
    · have := neg_iff.mp (show w < 0 from z)
      unfold seenM
      rw [if_neg (by omega)]
    · have z1 := mt neg_iff.mpr (show ¬ w < 0 from z)
      refine x_n cd_i23_11 rfl rfl ?_
      refine x_ic cd_i23_12 (z := ii 1) rfl ?_
      show am_to cd_t _ _ 23 13 _ _ _ _ _ _
      refine x_icmp cd_i23_13 (fun y => ?_) (fun y => no ?_)
      · have y1 := (le_c (by decide)).mp (show w ≤ ii 1 from y)
        have ec := Int32_nn (n := c) (by omega)
        have ew := Int32_nn (n := w) (by omega)
        have hcl : c.toNatClampNeg < 10 := by
          show c.toInt.toNat < 10
          omega
        have hwl : w.toNatClampNeg < 2 := by
          show w.toInt.toNat < 2
          omega
        unfold seenM
        rw [if_pos (by omega)]
        have hcount := x_countSeen (cs := cs) (d := d - 1) (top := top) (sl := sl) (c := c.toNatClampNeg) (k := w.toNatClampNeg) (by omega) hcs hC hO hr hcl (by omega)
        rw [← ec] at hcount
        have tail : am_to cd_t cs d 23 36 [some (.ref b), some (.int c), some (.int w)] [.ref (ad w.toNatClampNeg), .int c, .ref (b + 3)] σ top sl (.inl (some (.int (ii (cS dec pl c.toNatClampNeg w.toNatClampNeg (chain dec 11 c.toNatClampNeg))))), σ, top, sl) := by
          refine x_callv (as' := [.int c, .ref (ad w.toNatClampNeg)]) cd_i23_36 hC.1 (by omega) rfl rfl rfl rfl rfl rfl hcount ?_
          exact x_end cd_i23_39 rfl rfl rfl
        refine x_n cd_i23_18 rfl rfl ?_
        refine x_getf cd_i23_19 (by assumption) rfl rfl ?_
        refine x_n cd_i23_22 rfl rfl ?_
        refine x_n cd_i23_23 rfl rfl ?_
        show am_to cd_t _ _ 23 24 _ _ _ _ _ _
        refine x_if cd_i23_24 (fun t => ?_) (fun t => ?_)
        · have e1 : w.toNatClampNeg = 1 := by
            by_cases h0 : w.toNatClampNeg = 0
            · exact absurd (show w = 0 by rw [ew, h0]; rfl) t
            · omega
          rw [e1] at tail ⊢
          refine x_n cd_i23_33 rfl rfl ?_
          rw [hcs.2.1]
          exact tail
        · have t : w = 0 := Decidable.not_not.mp t
          have e0 : w.toNatClampNeg = 0 := by rw [t]; rfl
          rw [e0] at tail ⊢
          refine x_n cd_i23_27 rfl rfl ?_
          rw [hcs.1]
          refine x_n cd_i23_30 rfl rfl ?_
          show am_to cd_t _ _ 23 36 _ _ _ _ _ _
          exact tail
      · have := mt (le_c (n := w) (k := 1) (by decide)).mpr y
        unfold seenM
        rw [if_neg (by omega)]
  · rw [if_neg hc]
    refine x_if_t cd_i23_4 rfl (no ?_)
    unfold seenM
    rw [if_neg (fun h => hc h.1)]
end SF
