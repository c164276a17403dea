/-! the numbers of what is seen -/
def cSum (f : Nat → Nat) : Nat → Nat → Nat
  | _, 0 => 0
  | x, n + 1 => f x + cSum f (x + 1) n
theorem cSum_congr {f g : Nat → Nat} : ∀ (n x : Nat), (∀ y, x ≤ y → y < x + n → f y = g y) → cSum f x n = cSum g x n
  | 0, _, _ => rfl
  | n + 1, x, h => by
    rw [cSum, cSum, h x (Nat.le_refl _) (by omega), cSum_congr n (x + 1) (fun y h1 h2 => h y (by omega) (by omega))]
theorem cSum_add {f g : Nat → Nat} : ∀ (n x : Nat), cSum (fun y => f y + g y) x n = cSum f x n + cSum g x n
  | 0, _ => rfl
  | n + 1, x => by
    rw [cSum, cSum, cSum, cSum_add n (x + 1)]
    omega
theorem cSum_zero : ∀ (n x : Nat), cSum (fun _ => 0) x n = 0
  | 0, _ => rfl
  | n + 1, x => by rw [cSum, cSum_zero n (x + 1)]
theorem cSum_one {a v : Nat} : ∀ (n x : Nat), x ≤ a → a < x + n → cSum (fun y => if y = a then v else 0) x n = v
  | 0, x, h1, h2 => by omega
  | n + 1, x, h1, h2 => by
    rw [cSum]
    by_cases e : x = a
    · rw [if_pos e]
      have : cSum (fun y => if y = a then v else 0) (x + 1) n = 0 := by
        rw [cSum_congr (g := fun _ => 0) n (x + 1) (fun y h3 h4 => if_neg (by omega)), cSum_zero]
      omega
    · rw [if_neg e, cSum_one n (x + 1) (by omega) (by omega)]
      omega
theorem sum_list {f : Nat → Nat} {N : Nat} : ∀ (l : List Nat), l.Nodup → (∀ y ∈ l, y < N) → cSum (fun y => if y ∈ l then f y else 0) 0 N = (l.map f).sum
  | [], _, _ => by
    rw [cSum_congr (g := fun _ => 0) N 0 (fun y _ _ => if_neg (by intro h; cases h)), cSum_zero]
    rfl
  | a :: l, hn, hl => by
    obtain ⟨h1, h2⟩ := List.nodup_cons.mp hn
    have e : ∀ y, 0 ≤ y → y < 0 + N → (if y ∈ a :: l then f y else 0) = (if y = a then f a else 0) + (if y ∈ l then f y else 0) := by
      intro y _ _
      by_cases ey : y = a
      · rw [ey, if_pos List.mem_cons_self, if_pos rfl, if_neg h1]
        rfl
      · rw [if_neg ey, Nat.zero_add]
        by_cases em : y ∈ l
        · rw [if_pos em, if_pos (List.mem_cons_of_mem _ em)]
        · rw [if_neg em, if_neg (fun h => by rcases List.mem_cons.mp h with h | h; exact ey h; exact em h)]
    rw [cSum_congr N 0 e, cSum_add, cSum_one N 0 (Nat.zero_le _) (by have := hl a List.mem_cons_self; omega), sum_list l h2 (fun y hy => hl y (List.mem_cons_of_mem _ hy)), List.map_cons, List.sum_cons]
section CH
variable {dec : Nat → Option Dec} {rk : Nat → Nat}
theorem chain_rank (hr : ranked dec rk) : ∀ (n c x : Nat), x ∈ chain dec n c → (∃ D, dec c = some D) → rk x ≤ rk c ∧ ∃ D, dec x = some D
  | 0, c, x, h, _ => by cases h
  | n + 1, c, x, h, ⟨D, hD⟩ => by
    rw [chain_succ] at h
    rcases List.mem_cons.mp h with e | h
    · rw [e]
      exact ⟨Nat.le_refl _, D, hD⟩
    · unfold abv at h
      rw [hD] at h
      cases hp : D.1 with
      | none =>
        have h : x ∈ (match D.1 with | none => ([] : List Nat) | some p => chain dec n p) := h
        rw [hp] at h
        cases h
      | some p =>
        have h : x ∈ (match D.1 with | none => ([] : List Nat) | some p => chain dec n p) := h
        rw [hp] at h
        obtain ⟨-, hp1, hp2⟩ := (hr c D hD).2.2 p hp
        obtain ⟨k1, k2⟩ := chain_rank hr n p x h hp1
        exact ⟨by omega, k2⟩
theorem chain_nodup (hr : ranked dec rk) : ∀ (n c : Nat), (chain dec n c).Nodup
  | 0, c => List.nodup_nil
  | n + 1, c => by
    rw [chain_succ]
    cases ha : abv dec c with
    | none => exact List.nodup_cons.mpr ⟨(fun h => by cases h), List.nodup_nil⟩
    | some p =>
      dsimp only
      unfold abv at ha
      obtain ⟨D, hD, hp⟩ := Option.bind_eq_some_iff.mp ha
      obtain ⟨-, hp1, hp2⟩ := (hr c D hD).2.2 p hp
      refine List.nodup_cons.mpr ⟨fun h => ?_, chain_nodup hr n p⟩
      have := (chain_rank hr n p c h hp1).1
      omega
theorem chain_lt (hr : ranked dec rk) : ∀ (n c x : Nat), c < 10 → x ∈ chain dec n c → x < 10
  | 0, c, x, _, h => by cases h
  | n + 1, c, x, hc, h => by
    rw [chain_succ] at h
    rcases List.mem_cons.mp h with e | h
    · omega
    · cases ha : abv dec c with
      | none =>
        rw [ha] at h
        cases h
      | some p =>
        rw [ha] at h
        unfold abv at ha
        obtain ⟨D, hD, hp⟩ := Option.bind_eq_some_iff.mp ha
        exact chain_lt hr n p x ((hr c D hD).2.2 p hp).1 h
end CH
theorem cF_zero {P : Nat → Bool} : ∀ (n j : Nat), (∀ q, j ≤ q → q < j + n → P q = false) → cF P j n = 0
  | 0, _, _ => rfl
  | n + 1, j, h => by
    rw [cF, h j (Nat.le_refl _) (by omega), if_neg (by decide), cF_zero n (j + 1) (fun q h1 h2 => h q (by omega) (by omega))]
theorem cF_cut {P : Nat → Bool} {L : Nat} : ∀ (n j : Nat), j ≤ L → L ≤ j + n → cF (fun q => decide (q < L) && P q) j n = cF P j (L - j)
  | 0, j, h1, h2 => by
    rw [show L - j = 0 by omega]
    rfl
  | n + 1, j, h1, h2 => by
    by_cases e : j = L
    · rw [show L - j = 0 by omega]
      show cF _ j (n + 1) = 0
      exact cF_zero (n + 1) j (fun q h3 h4 => by rw [decide_eq_false (by omega), Bool.false_and])
    · rw [show L - j = (L - (j + 1)) + 1 by omega, cF, cF, cF_cut n (j + 1) (by omega) (by omega), decide_eq_true (by omega), Bool.true_and]
section MS
variable {cs : Nat → Value} {d m top sl : Nat} {σ : am_H} {i : Nat → Int32} {a : Nat → Nat → Int32} {dec : Nat → Option Dec} {pl : Int32} {rk : Nat → Nat}
def qS (dec : Nat → Option Dec) (pl : Int32) (c k x j : Nat) : Bool := decide (j < (memsOf dec x).length) && pS dec pl c k x j
theorem m_seen_in {c k x : Nat} (hd : 3 < d) (hM : mo σ m i a) (hC : M_cat a dec) (hO : catOk dec) (hr : ranked dec rk) (hpl : i 18 = pl) (hc : c < 10) (hk : k < 2) (hx : x < 10) :
    ∀ (n j acc : Nat), j + n = 6 → ∀ res, am_to cd_t cs d 156 31 [some (.ref m), some (.int (ii c)), some (.int (ii k)), some (.int (ii (acc + cF (qS dec pl c k x) j n))), some (.int (ii (6 * x + 6)))] [] σ top sl res → am_to cd_t cs d 156 31 [some (.ref m), some (.int (ii c)), some (.int (ii k)), some (.int (ii acc)), some (.int (ii (6 * x + j)))] [] σ top sl res := by
  intro n
  induction n with
  | zero =>
    intro j acc hj res hh
    rw [show j = 6 by omega]
    exact hh
  | succ n ih =>
    intro j acc hj res hh
    have step : ∀ z : Nat, z = (if qS dec pl c k x j = true then 1 else 0) → am_to cd_t cs d 156 99 [some (.ref m), some (.int (ii c)), some (.int (ii k)), some (.int (ii acc)), some (.int (ii (6 * x + j)))] [.int (ii (acc + z))] σ top sl res := by
      intro z hz
      refine x_n cd_i156_99 rfl rfl ?_
      try dsimp only [List.set]
      show am_to cd_t _ _ 156 100 _ _ _ _ _ _
      refine x_iinc cd_i156_100 rfl (z := ii (6 * x + (j + 1))) (ii_add _ 1) rfl ?_
      refine x_n cd_i156_103 rfl rfl ?_
      show am_to cd_t _ _ 156 31 _ _ _ _ _ _
      refine ih (j + 1) (acc + z) (by omega) res ?_
      rw [Nat.add_assoc, hz]
      exact hh
    have no : qS dec pl c k x j = false → am_to cd_t cs d 156 98 [some (.ref m), some (.int (ii c)), some (.int (ii k)), some (.int (ii acc)), some (.int (ii (6 * x + j)))] [] σ top sl res := by
      intro z
      refine x_n cd_i156_98 rfl rfl ?_
      show am_to cd_t _ _ 156 99 _ _ _ _ _ _
      exact step 0 (by rw [z, if_neg (by decide)])
    refine x_n cd_i156_31 rfl rfl ?_
    refine x_bi cd_i156_33 (z := ii 60) (by decide) ?_
    show am_to cd_t _ _ 156 35 _ _ _ _ _ _
    refine x_icmp_f cd_i156_35 (fun z => by have := (ii_le (by decide) (by omega)).mp (show ii 60 ≤ ii (6 * x + j) from z); omega) ?_
    refine x_n cd_i156_38 rfl rfl ?_
    refine x_getf cd_i156_39 hM.1 rfl rfl ?_
    refine x_n cd_i156_42 rfl rfl ?_
    refine x_bi cd_i156_44 (z := ii 6) (by decide) ?_
    show am_to cd_t _ _ 156 46 _ _ _ _ _ _
    refine x_idiv cd_i156_46 (fun z => absurd (show ii 6 = 0 from z) (by decide)) (div6 (by omega) (by omega)) ?_
    cases hD : dec x with
    | none =>
      refine x_bald cd_i156_47 (hM.2 2 (by decide) (by decide)) (show _ < 10 by omega) (by decide) ((hC x hx).1 hD) ?_
      refine x_if_t cd_i156_48 rfl (no ?_)
      unfold qS memsOf
      rw [hD]
      rfl
    | some D =>
      obtain ⟨q1, q2, q3, q4, q5⟩ := (hC x hx).2 D hD
      have emem : memsOf dec x = D.2 := by unfold memsOf; rw [hD]
      refine x_bald cd_i156_47 (hM.2 2 (by decide) (by decide)) (show _ < 10 by omega) (by decide) (q1) ?_
      refine x_if_f cd_i156_48 (fun z => absurd (show (1 : Int32) = 0 from z) (by decide)) ?_
      refine x_n cd_i156_51 rfl rfl ?_
      refine x_bi cd_i156_53 (z := ii 6) (by decide) ?_
      show am_to cd_t _ _ 156 55 _ _ _ _ _ _
      refine x_irem cd_i156_55 (fun z => absurd (show ii 6 = 0 from z) (by decide)) (rem6 (by omega) (by omega)) ?_
      refine x_n cd_i156_56 rfl rfl ?_
      refine x_getf cd_i156_57 hM.1 rfl rfl ?_
      refine x_n cd_i156_60 rfl rfl ?_
      refine x_bi cd_i156_62 (z := ii 6) (by decide) ?_
      show am_to cd_t _ _ 156 64 _ _ _ _ _ _
      refine x_idiv cd_i156_64 (fun z => absurd (show ii 6 = 0 from z) (by decide)) (div6 (by omega) (by omega)) ?_
      refine x_iald cd_i156_65 (hM.2 4 (by decide) (by decide)) (show _ < 10 by omega) (by decide) (q3) ?_
      by_cases hjl : j < D.2.length
      · have eq1 : qS dec pl c k x j = pS dec pl c k x j := by
          unfold qS
          rw [emem, decide_eq_true hjl, Bool.true_and]
        have hok := (hO x D hD).2.1 _ (getD_mem hjl)
        have mk := hok.1
        refine x_icmp_f cd_i156_66 (fun z => by have := (ii_le (by omega) (by omega)).mp (show ii D.2.length ≤ ii j from z); omega) ?_
        obtain ⟨h1, h2⟩ := q5 j hjl
        refine x_n cd_i156_69 rfl rfl ?_
        refine x_getf cd_i156_70 hM.1 rfl rfl ?_
        refine x_n cd_i156_73 rfl rfl ?_
        show am_to cd_t _ _ 156 75 _ _ _ _ _ _
        refine x_iald cd_i156_75 (hM.2 5 (by decide) (by decide)) (show _ < 66 by omega) (by decide) (h1) ?_
        refine x_n cd_i156_76 rfl rfl ?_
        show am_to cd_t _ _ 156 77 _ _ _ _ _ _
        by_cases ek : (D.2.getD j default).1 = k
        · refine x_icmp_f cd_i156_77 (fun z => z (by rw [ek])) ?_
          have hs := m_sees (cs := cs) (d := d - 1) (top := top) (sl := sl) (t := 3 + c) (by omega) hM hC hO hr hpl (by omega) hD hjl
          rw [decide_eq_true (by omega), Bool.true_and, show 3 + c - 3 = c by omega] at hs
          have eq2 : qS dec pl c k x j = snB dec pl c x j := by
            rw [eq1]
            unfold pS
            rw [emem, beq_iff_eq.mpr ek, Bool.true_and]
          refine x_n cd_i156_80 rfl rfl ?_
          refine x_ic cd_i156_81 (z := ii 3) rfl ?_
          refine x_n cd_i156_82 rfl rfl ?_
          refine x_iadd cd_i156_83 (ii_add _ _) ?_
          refine x_n cd_i156_84 rfl rfl ?_
          show am_to cd_t _ _ 156 86 _ _ _ _ _ _
          refine x_callv (as' := [.int (ii (3 + c)), .int (ii (6 * x + j))]) cd_i156_86 hM.1 (by omega) rfl rfl rfl rfl rfl rfl (hs) ?_
          cases hb : snB dec pl c x j with
          | true =>
            refine x_if_f cd_i156_89 (fun z => absurd (show (1 : Int32) = 0 from z) (by decide)) ?_
            refine x_n cd_i156_92 rfl rfl ?_
            refine x_ic cd_i156_93 (z := ii 1) rfl ?_
            refine x_iadd cd_i156_94 (ii_add _ _) ?_
            refine x_n cd_i156_95 rfl rfl ?_
            show am_to cd_t _ _ 156 99 _ _ _ _ _ _
            exact step 1 (by rw [eq2, hb, if_pos rfl])
          | false => exact x_if_t cd_i156_89 rfl (no (by rw [eq2, hb]))
        · refine x_icmp_t cd_i156_77 (fun z => ek ((ii_eq (by omega) (by omega)).mp z)) (no ?_)
          rw [eq1]
          unfold pS
          rw [emem, beq_eq_false_iff_ne.mpr ek, Bool.false_and]
      · refine x_icmp_t cd_i156_66 ((ii_le (by omega) (by omega)).mpr (by omega)) (no ?_)
        unfold qS
        rw [emem, decide_eq_false hjl, Bool.false_and]
theorem m_seen_loop {c k : Nat} (hd : 3 < d) (hM : mo σ m i a) (hC : M_cat a dec) (hO : catOk dec) (hr : ranked dec rk) (hpl : i 18 = pl) (hc : c < 10) (hk : k < 2) :
    ∀ (n x acc : Nat), x + n = 10 → am_to cd_t cs d 156 31 [some (.ref m), some (.int (ii c)), some (.int (ii k)), some (.int (ii acc)), some (.int (ii (6 * x)))] [] σ top sl (.inl (some (.int (ii (acc + cSum (fun x => cF (qS dec pl c k x) 0 6) x n)))), σ, top, sl) := by
  intro n
  induction n with
  | zero =>
    intro x acc hx
    refine x_n cd_i156_31 rfl rfl ?_
    refine x_bi cd_i156_33 (z := ii 60) (by decide) ?_
    show am_to cd_t _ _ 156 35 _ _ _ _ _ _
    refine x_icmp_t cd_i156_35 ((ii_le (by decide) (by omega)).mpr (by omega)) ?_
    refine x_n cd_i156_106 rfl rfl ?_
    show am_to cd_t _ _ 156 107 _ _ _ _ _ _
    exact x_end cd_i156_107 rfl rfl rfl
  | succ n ih =>
    intro x acc hx
    have h := m_seen_in (cs := cs) (d := d) (top := top) (sl := sl) (c := c) (k := k) (x := x) hd hM hC hO hr hpl hc hk (by omega) 6 0 acc rfl
    refine h _ ?_
    have := ih (x + 1) (acc + cF (qS dec pl c k x) 0 6) (by omega)
    rw [show 6 * (x + 1) = 6 * x + 6 by omega] at this
    rw [cSum, ← Nat.add_assoc]
    exact this
theorem sum_seen {c k : Nat} (hr : ranked dec rk) (hO : catOk dec) (hc : c < 10) : cSum (fun x => cF (qS dec pl c k x) 0 6) 0 10 = cS dec pl c k (chain dec 11 c) := by
  unfold cS
  rw [← sum_list (N := 10) (chain dec 11 c) (chain_nodup hr 11 c) (fun y hy => chain_lt hr 11 c y hc hy)]
  refine cSum_congr 10 0 (fun x _ hx => ?_)
  have hl : (memsOf dec x).length ≤ 6 := by
    unfold memsOf
    cases hD : dec x with
    | none => exact Nat.zero_le _
    | some D => exact (hO x D hD).1
  have e1 : cF (qS dec pl c k x) 0 6 = cF (pS dec pl c k x) 0 (memsOf dec x).length := cF_cut 6 0 (Nat.zero_le _) (by omega)
  rw [e1]
  by_cases hm : x ∈ chain dec 11 c
  · rw [if_pos hm]
  · rw [if_neg hm]
    refine cF_zero _ _ (fun q _ _ => ?_)
    unfold pS snB
    cases hb : (fsL dec pl ((memsOf dec x).getD q default).1 ((memsOf dec x).getD q default).2.2.2.1 (chain dec 11 c) == some (x, q)) with
    | false => rw [Bool.and_false, Bool.and_false]
    | true => exact absurd (fsL_some _ (beq_iff_eq.mp hb)).1 hm
theorem m_seen {c w : Int32} (hd : 3 < d) (hM : mo σ m i a) (hC : M_cat a dec) (hO : catOk dec) (hr : ranked dec rk) (hpl : i 18 = pl) :
    ∃ σ', am_to cd_t cs d 156 0 (am_ent 5 [.ref m, .int c, .int w]) [] σ top sl (.inl (some (.int (seenM dec pl c w))), σ', top, sl) ∧ mo σ' m (upd i 0 (ii 0)) a ∧ ∀ x, x < m ∨ m + 25 ≤ x → σ' x = σ x := by
  have h1 := hM.put (upd i 0 (ii 0))
  refine ⟨_, ?_, h1, fun x hx => am_up_ne _ _ (by omega)⟩
  have no : seenM dec pl c w = -1 → am_to cd_t cs d 156 24 (am_ent 5 [.ref m, .int c, .int w]) [] (am_up σ m (.inr (.inl (11, mo_f m (upd i 0 (ii 0)))))) top sl (.inl (some (.int (seenM dec pl c w))), am_up σ m (.inr (.inl (11, mo_f m (upd i 0 (ii 0))))), top, sl) := by
    intro z
    rw [z]
    refine x_ic cd_i156_24 (z := (-1)) rfl ?_
    show am_to cd_t _ _ 156 25 _ _ _ _ _ _
    exact x_end cd_i156_25 rfl rfl rfl
  have o1 : (c < ii 0 ∨ ii 9 < c) ↔ ¬ (0 ≤ c.toInt ∧ c.toInt < 10) := by
    rw [c_lt (by decide), lt_c (by decide)]
    omega
  have o2 : (w < ii 0 ∨ ii 1 < w) ↔ ¬ (0 ≤ w.toInt ∧ w.toInt ≤ 1) := by
    rw [c_lt (by decide), lt_c (by decide)]
    omega
  refine x_n cd_i156_0 rfl rfl ?_
  refine x_ic cd_i156_1 (z := ii 0) rfl ?_
  show am_to cd_t _ _ 156 2 _ _ _ _ _ _
  refine x_putf cd_i156_2 (fs' := mo_f m (upd i 0 (ii 0))) hM.1 rfl rfl rfl ?_
  refine x_n cd_i156_5 rfl rfl ?_
  refine x_ic cd_i156_6 (z := ii 0) rfl ?_
  refine x_bi cd_i156_7 (z := ii 9) (by decide) ?_
  show am_to cd_t _ _ 156 9 _ _ _ _ _ _
  refine x_calls (as := [.int c, .int (ii 0), .int (ii 9)]) cd_i156_9 (by omega) rfl rfl rfl rfl rfl rfl m_outside ?_
  by_cases hc : 0 ≤ c.toInt ∧ c.toInt < 10
  · rw [if_neg (fun z => o1.mp z hc)]
    refine x_if_f cd_i156_12 (fun z => z rfl) ?_
    refine x_n cd_i156_15 rfl rfl ?_
    refine x_ic cd_i156_16 (z := ii 0) rfl ?_
    refine x_ic cd_i156_17 (z := ii 1) rfl ?_
    show am_to cd_t _ _ 156 18 _ _ _ _ _ _
    refine x_calls (as := [.int w, .int (ii 0), .int (ii 1)]) cd_i156_18 (by omega) rfl rfl rfl rfl rfl rfl m_outside ?_
    by_cases hw : 0 ≤ w.toInt ∧ w.toInt ≤ 1
    · rw [if_neg (fun z => o2.mp z hw)]
      refine x_if_t cd_i156_21 rfl ?_
      have ec := Int32_nn (n := c) (by omega)
      have ew := Int32_nn (n := w) (by omega)
      have hcl : c.toNatClampNeg < 10 := by
        show c.toInt.toNat < 10
        omega
      have hwl : w.toNatClampNeg < 2 := by
        show w.toInt.toNat < 2
        omega
      unfold seenM
      rw [if_pos ⟨hc, hw⟩]
      have hl := m_seen_loop (cs := cs) (d := d) (top := top) (sl := sl) (c := c.toNatClampNeg) (k := w.toNatClampNeg) hd h1 hC hO hr hpl hcl hwl 10 0 0 rfl
      rw [sum_seen hr hO hcl, Nat.zero_add, ← ec, ← ew] at hl
      refine x_ic cd_i156_26 (z := ii 0) rfl ?_
      refine x_n cd_i156_27 rfl rfl ?_
      try dsimp only [List.set]
      refine x_ic cd_i156_28 (z := ii 0) rfl ?_
      refine x_n cd_i156_29 rfl rfl ?_
      try dsimp only [List.set]
      show am_to cd_t _ _ 156 31 _ _ _ _ _ _
      exact hl
    · rw [if_pos (o2.mpr hw)]
      refine x_if_f cd_i156_21 (fun z => absurd (show (1 : Int32) = 0 from z) (by decide)) (no ?_)
      unfold seenM
      rw [if_neg (fun h => hw h.2)]
  · rw [if_pos (o1.mpr hc)]
    refine x_if_t cd_i156_12 (fun z => absurd (show (1 : Int32) = 0 from z) (by decide)) (no ?_)
    unfold seenM
    rw [if_neg (fun h => hc h.1)]
end MS
