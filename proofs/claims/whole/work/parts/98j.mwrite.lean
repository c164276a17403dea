/-! the reference's texts that are being made and kept -/
theorem ii_div {a b : Nat} (ha : a < 2147483648) (hb : b < 2147483648) : ii a / ii b = ii (a / b) := by
  have hq : a / b < 2147483648 := Nat.lt_of_le_of_lt (Nat.div_le_self a b) ha
  rw [← Int32.toInt_inj, Int32.toInt_div, ii_toInt ha, ii_toInt hb, ii_toInt hq, ← Int.ofNat_tdiv]
  generalize a / b = q at hq
  rw [Int.bmod_eq_of_le]
  · omega
  · omega
theorem ii_rem {a b : Nat} (ha : a < 2147483648) (hb : b < 2147483648) : ii a - ii a / ii b * ii b = ii (a % b) := by
  rw [ii_div ha hb, ii_mul, ii_sub (Nat.div_mul_le_self a b)]
  congr 1
  have := Nat.div_add_mod a b
  rw [Nat.mul_comm] at this
  omega
def mk (i : Nat → Int32) (a : Nat → Nat → Int32) (w : List Nat) : Prop := i 25 = ii w.length ∧ w.length ≤ 150 ∧ ∀ k, k < w.length → a 18 k = ii (w.getD k 0)
def WR (i i' : Nat → Int32) (a a' : Nat → Nat → Int32) : Prop := (∀ q, q ≠ 25 → i' q = i q) ∧ ∀ k, k ≠ 18 → a' k = a k
theorem WR.refl (i : Nat → Int32) (a : Nat → Nat → Int32) : WR i i a a := ⟨fun _ _ => rfl, fun _ _ => rfl⟩
theorem WR.trans {i i1 i2 : Nat → Int32} {a a1 a2 : Nat → Nat → Int32} (h : WR i i1 a a1) (h' : WR i1 i2 a1 a2) : WR i i2 a a2 := ⟨fun q hq => (h'.1 q hq).trans (h.1 q hq), fun k hk => (h'.2 k hk).trans (h.2 k hk)⟩
/-- a kept row -/
def krow (a : Nat → Nat → Int32) (e : Nat) (E : Ent) : Prop := a 14 e = ii (cst E.1) ∧ a 15 e = ii E.2 ∧ a 16 e = ii E.1.length ∧ E.1.length ≤ 24 ∧ (∀ x ∈ E.1, 0 < x ∧ x < 127) ∧ ∀ k, k < E.1.length → a 17 (24 * e + k) = ii (E.1.getD k 0)
theorem getD_snoc {w : List Nat} {c k : Nat} (h : k < w.length + 1) : (w ++ [c]).getD k 0 = if k = w.length then c else w.getD k 0 := by
  rw [List.getD_eq_getElem?_getD]
  by_cases e : k = w.length
  · rw [if_pos e, e, List.getElem?_append_right (Nat.le_refl _), Nat.sub_self]
    rfl
  · rw [if_neg e, List.getElem?_append_left (by omega), ← List.getD_eq_getElem?_getD]
theorem getD_let {w : List Nat} {k : Nat} (h : ∀ x ∈ w, 0 < x ∧ x < 127) (hk : k < w.length) : 0 < w.getD k 0 ∧ w.getD k 0 < 127 := by
  rw [List.getD_eq_getElem?_getD, List.getElem?_eq_getElem hk]
  exact h _ (List.getElem_mem hk)
section MKS
variable {cs : Nat → Value} {d m top sl : Nat}
theorem m_write {σ : am_H} {i : Nat → Int32} {a : Nat → Nat → Int32} {w : List Nat} {c : Nat} (hM : mo σ m i a) (hk : mk i a w) (hw : w.length < 150) (hc : c < 127) :
    ∃ (σ' : am_H) (i' : Nat → Int32) (a' : Nat → Nat → Int32), am_to cd_t cs d 133 0 (am_ent 2 [.ref m, .int (ii c)]) [] σ top sl (.inl none, σ', top, sl) ∧ mo σ' m i' a' ∧ mk i' a' (w ++ [c]) ∧ WR i i' a a' ∧ ∀ x, x < m ∨ m + 25 ≤ x → σ' x = σ x := by
  obtain ⟨k1, k2, k3⟩ := hk
  have h1 := hM.sto 18 (by decide) (by decide) (upd (a 18) w.length (ii c))
  have h2 := h1.put (upd i 25 (ii (w.length + 1)))
  have el : (w ++ [c]).length = w.length + 1 := List.length_append
  refine ⟨_, _, _, ?_, h2, ⟨by rw [el, upd_eq], by omega, fun k hk => ?_⟩, ⟨fun q hq => upd_ne hq, fun k hk => updA_ne hk⟩, fun x hx => by rw [am_up_ne _ _ (by omega), am_up_ne _ _ (by omega)]⟩
  · refine x_n cd_i133_0 rfl rfl ?_
    show am_to cd_t _ _ 133 1 _ _ _ _ _ _
    refine x_getf cd_i133_1 hM.1 (congrArg (fun z => some (Value.int z)) (k1)) rfl ?_
    refine x_si cd_i133_4 (z := ii 200) (by decide) ?_
    refine x_icmp_f cd_i133_7 (fun z => by have := (ii_le (by decide) (by omega)).mp (show ii 200 ≤ ii w.length from z); omega) ?_
    refine x_n cd_i133_10 rfl rfl ?_
    refine x_getf cd_i133_11 hM.1 rfl rfl ?_
    refine x_n cd_i133_14 rfl rfl ?_
    show am_to cd_t _ _ 133 15 _ _ _ _ _ _
    refine x_getf cd_i133_15 hM.1 (congrArg (fun z => some (Value.int z)) (k1)) rfl ?_
    refine x_n cd_i133_18 rfl rfl ?_
    show am_to cd_t _ _ 133 19 _ _ _ _ _ _
    refine x_castore cd_i133_19 (hM.2 18 (by decide) (by decide)) (show w.length < 200 by omega) (by decide) ?_
    rw [nar_char_ii (by omega)]
    refine x_n cd_i133_20 rfl rfl ?_
    refine x_n cd_i133_21 rfl rfl ?_
    show am_to cd_t _ _ 133 22 _ _ _ _ _ _
    refine x_getf cd_i133_22 h1.1 (congrArg (fun z => some (Value.int z)) (k1)) rfl ?_
    refine x_ic cd_i133_25 (z := ii 1) rfl ?_
    refine x_iadd cd_i133_26 (ii_add _ _) ?_
    show am_to cd_t _ _ 133 27 _ _ _ _ _ _
    refine x_putf cd_i133_27 (fs' := mo_f m (upd i 25 (ii (w.length + 1)))) h1.1 rfl rfl rfl ?_
    exact x_end cd_i133_30 rfl rfl rfl
  · rw [el] at hk
    rw [updA_eq, getD_snoc hk]
    by_cases e : k = w.length
    · rw [if_pos e, e, upd_eq]
    · rw [if_neg e, upd_ne e]
      exact k3 k (by omega)
theorem m_writeKept {σ : am_H} {i : Nat → Int32} {a : Nat → Nat → Int32} {w : List Nat} {e : Nat} {E : Ent} (hd : 0 < d) (hM : mo σ m i a) (hk : mk i a w) (he : e < 33) (hE : krow a e E) (hw : w.length ≤ 120) :
    ∃ (σ' : am_H) (i' : Nat → Int32) (a' : Nat → Nat → Int32), am_to cd_t cs d 142 0 (am_ent 3 [.ref m, .int (ii e)]) [] σ top sl (.inl none, σ', top, sl) ∧ mo σ' m i' a' ∧ mk i' a' (w ++ E.1) ∧ WR i i' a a' ∧ ∀ x, x < m ∨ m + 25 ≤ x → σ' x = σ x := by
  have loop : ∀ (n k : Nat) (σ : am_H) (i : Nat → Int32) (a : Nat → Nat → Int32), k + n = E.1.length → mo σ m i a → mk i a (w ++ E.1.take k) → krow a e E →
      ∃ (σ' : am_H) (i' : Nat → Int32) (a' : Nat → Nat → Int32), am_to cd_t cs d 142 2 [some (.ref m), some (.int (ii e)), some (.int (ii k))] [] σ top sl (.inl none, σ', top, sl) ∧ mo σ' m i' a' ∧ mk i' a' (w ++ E.1) ∧ WR i i' a a' ∧ ∀ x, x < m ∨ m + 25 ≤ x → σ' x = σ x := by
    intro n
    induction n with
    | zero =>
      intro k σ i a hkn hM hk hE
      obtain ⟨e1, e2, e3, e4, e5, e6⟩ := hE
      rw [List.take_of_length_le (by omega)] at hk
      refine ⟨σ, i, a, ?_, hM, hk, WR.refl i a, fun _ _ => rfl⟩
      refine x_n cd_i142_2 rfl rfl ?_
      refine x_n cd_i142_3 rfl rfl ?_
      refine x_getf cd_i142_4 hM.1 rfl rfl ?_
      refine x_n cd_i142_7 rfl rfl ?_
      show am_to cd_t _ _ 142 8 _ _ _ _ _ _
      refine x_iald cd_i142_8 (hM.2 16 (by decide) (by decide)) (show _ < 33 by omega) (by decide) (e3) ?_
      refine x_icmp_t cd_i142_9 ((ii_le (by omega) (by omega)).mpr (by omega)) ?_
      exact x_end cd_i142_33 rfl rfl rfl
    | succ n ih =>
      intro k σ i a hkn hM hk hE
      obtain ⟨e1, e2, e3, e4, e5, e6⟩ := id hE
      have hkl : k < E.1.length := by omega
      have hlt := getD_let e5 hkl
      have hwl : (w ++ E.1.take k).length < 150 := by
        rw [List.length_append, List.length_take]
        omega
      obtain ⟨s1, i1, a1, b1, b2, b3, b4, b5⟩ := m_write (cs := cs) (d := d - 1) (top := top) (sl := sl) hM hk hwl hlt.2
      have et : w ++ E.1.take k ++ [E.1.getD k 0] = w ++ E.1.take (k + 1) := by
        rw [List.append_assoc, List.take_add_one, List.getD_eq_getElem?_getD, List.getElem?_eq_getElem hkl]
        rfl
      rw [et] at b3
      have hE1 : krow a1 e E := by
        unfold krow
        rw [b4.2 14 (by decide), b4.2 15 (by decide), b4.2 16 (by decide), b4.2 17 (by decide)]
        exact hE
      obtain ⟨s2, i2, a2, c1, c2, c3, c4, c5⟩ := ih (k + 1) s1 i1 a1 (by omega) b2 b3 hE1
      refine ⟨s2, i2, a2, ?_, c2, c3, b4.trans c4, fun x hx => (c5 x hx).trans (b5 x hx)⟩
      refine x_n cd_i142_2 rfl rfl ?_
      refine x_n cd_i142_3 rfl rfl ?_
      refine x_getf cd_i142_4 hM.1 rfl rfl ?_
      refine x_n cd_i142_7 rfl rfl ?_
      show am_to cd_t _ _ 142 8 _ _ _ _ _ _
      refine x_iald cd_i142_8 (hM.2 16 (by decide) (by decide)) (show _ < 33 by omega) (by decide) (e3) ?_
      refine x_icmp_f cd_i142_9 (fun z => by have := (ii_le (by omega) (by omega)).mp (show ii E.1.length ≤ ii k from z); omega) ?_
      refine x_n cd_i142_12 rfl rfl ?_
      refine x_n cd_i142_13 rfl rfl ?_
      refine x_getf cd_i142_14 hM.1 rfl rfl ?_
      refine x_bi cd_i142_17 (z := ii 24) (by decide) ?_
      refine x_n cd_i142_19 rfl rfl ?_
      refine x_imul cd_i142_20 (ii_mul _ _) ?_
      refine x_n cd_i142_21 rfl rfl ?_
      refine x_iadd cd_i142_22 (ii_add _ _) ?_
      show am_to cd_t _ _ 142 23 _ _ _ _ _ _
      refine x_cald cd_i142_23 (hM.2 17 (by decide) (by decide)) (show _ < 792 by omega) (by decide) (e6 k hkl) ?_
      refine x_callv (as' := [.int (ii (E.1.getD k 0))]) (r := none) cd_i142_24 hM.1 (by omega) rfl rfl rfl rfl rfl rfl (b1) ?_
      refine x_iinc cd_i142_27 rfl (ii_add _ 1) rfl ?_
      try dsimp only [List.set]
      refine x_n cd_i142_30 rfl rfl ?_
      show am_to cd_t _ _ 142 2 _ _ _ _ _ _
      exact c1
  obtain ⟨s2, i2, a2, c1, c2⟩ := loop E.1.length 0 σ i a (Nat.zero_add _) hM (by rw [List.take_zero, List.append_nil]; exact hk) hE
  refine ⟨s2, i2, a2, ?_, c2⟩
  refine x_ic cd_i142_0 (z := ii 0) rfl ?_
  refine x_n cd_i142_1 rfl rfl ?_
  try dsimp only [List.set]
  show am_to cd_t _ _ 142 2 _ _ _ _ _ _
  exact c1
theorem n27_fold : ∀ (r : List Nat) (v : Nat), r.foldl (fun v c => v * 27 + (c - 96)) v = v * 27 ^ r.length + n27 r
  | [], v => by
    show v = v * 1 + 0
    omega
  | c :: r, v => by
    show r.foldl (fun v c => v * 27 + (c - 96)) (v * 27 + (c - 96)) = v * 27 ^ (r.length + 1) + r.foldl (fun v c => v * 27 + (c - 96)) (0 * 27 + (c - 96))
    rw [n27_fold r (v * 27 + (c - 96)), n27_fold r (0 * 27 + (c - 96)), Nat.add_mul, Nat.pow_succ, Nat.mul_comm (27 ^ r.length) 27, ← Nat.mul_assoc, Nat.zero_mul, Nat.zero_add, Nat.add_assoc]
theorem n27_app (u r : List Nat) : n27 (u ++ r) = n27 u * 27 ^ r.length + n27 r := by
  show (u ++ r).foldl _ 0 = _
  rw [List.foldl_append]
  exact n27_fold r _
theorem n27_cons (c : Nat) (r : List Nat) : n27 (c :: r) = (c - 96) * 27 ^ r.length + n27 r := by
  have := n27_app [c] r
  have e1 : n27 [c] = c - 96 := by
    show 0 * 27 + (c - 96) = c - 96
    omega
  rw [e1] at this
  exact this
theorem n27_lt' : ∀ {r : List Nat}, (∀ c ∈ r, 97 ≤ c ∧ c ≤ 122) → n27 r < 27 ^ r.length
  | [], _ => by decide
  | c :: r, h => by
    have hc := h c List.mem_cons_self
    have := n27_lt' (r := r) (fun x hx => h x (List.mem_cons_of_mem _ hx))
    rw [n27_cons, List.length_cons, Nat.pow_succ]
    have h2 : (c - 96) * 27 ^ r.length ≤ 26 * 27 ^ r.length := Nat.mul_le_mul_right _ (by omega)
    omega
theorem n27_digit {u r : List Nat} {c : Nat} (hr : ∀ x ∈ r, 97 ≤ x ∧ x ≤ 122) (hc : 97 ≤ c ∧ c ≤ 122) : n27 (u ++ c :: r) / 27 ^ r.length % 27 = c - 96 := by
  have e : u ++ c :: r = (u ++ [c]) ++ r := by rw [List.append_assoc]; rfl
  have e2 : n27 (u ++ [c]) = n27 u * 27 + (c - 96) := by
    unfold n27
    rw [List.foldl_append]
    rfl
  have hlt := n27_lt' hr
  have hpos : 0 < 27 ^ r.length := Nat.pow_pos (by decide)
  rw [e, n27_app, Nat.add_comm, Nat.add_mul_div_right _ _ hpos, Nat.div_eq_of_lt hlt, Nat.zero_add, e2]
  omega
theorem n27_ge {w : List Nat} (h : ∀ c ∈ w, 97 ≤ c ∧ c ≤ 122) (h1 : 1 ≤ w.length) : 27 ^ (w.length - 1) ≤ n27 w := by
  cases w with
  | nil => exact absurd h1 (by decide)
  | cons c r =>
    have hc := h c List.mem_cons_self
    rw [n27_cons]
    show 27 ^ r.length ≤ _
    have : 1 * 27 ^ r.length ≤ (c - 96) * 27 ^ r.length := Nat.mul_le_mul_right _ (by omega)
    omega
theorem m_writeName {σ : am_H} {i : Nat → Int32} {a : Nat → Nat → Int32} {w v : List Nat} (hd : 0 < d) (hM : mo σ m i a) (hk : mk i a w) (hw : w.length ≤ 120) (hv : ∀ c ∈ v, 97 ≤ c ∧ c ≤ 122) (h1 : 1 ≤ v.length) (h4 : v.length ≤ 4) :
    ∃ (σ' : am_H) (i' : Nat → Int32) (a' : Nat → Nat → Int32), am_to cd_t cs d 132 0 (am_ent 4 [.ref m, .int (ii (n27 v))]) [] σ top sl (.inl none, σ', top, sl) ∧ mo σ' m i' a' ∧ mk i' a' (w ++ v) ∧ WR i i' a a' ∧ ∀ x, x < m ∨ m + 25 ≤ x → σ' x = σ x := by
  have hsm := n27_small hv h4
  have hge := n27_ge hv h1
  have hlt := n27_lt' hv
  have p4 : ∀ k, k ≤ 4 → 27 ^ k ≤ 531441 := by decide
  have loop2 : ∀ (r u : List Nat) (σ : am_H) (i : Nat → Int32) (a : Nat → Nat → Int32) (v2 : Option Value), v = u ++ r → mo σ m i a → mk i a (w ++ u) →
      ∃ (σ' : am_H) (i' : Nat → Int32) (a' : Nat → Nat → Int32), am_to cd_t cs d 132 20 [some (.ref m), some (.int (ii (n27 v))), v2, some (.int (ii (if r = [] then 0 else 27 ^ (r.length - 1))))] [] σ top sl (.inl none, σ', top, sl) ∧ mo σ' m i' a' ∧ mk i' a' (w ++ v) ∧ WR i i' a a' ∧ ∀ x, x < m ∨ m + 25 ≤ x → σ' x = σ x := by
    intro r
    induction r with
    | nil =>
      intro u σ i a v2 e hM hk
      rw [List.append_nil] at e
      rw [← e] at hk
      refine ⟨σ, i, a, ?_, hM, hk, WR.refl i a, fun _ _ => rfl⟩
      rw [if_pos rfl]
      refine x_n cd_i132_20 rfl rfl ?_
      show am_to cd_t _ _ 132 21 _ _ _ _ _ _
      refine x_if_t cd_i132_21 (show ii 0 ≤ 0 by decide) ?_
      exact x_end cd_i132_46 rfl rfl rfl
    | cons c r ih =>
      intro u σ i a v2 e hM hk
      have hcv : 97 ≤ c ∧ c ≤ 122 := hv c (by rw [e]; exact List.mem_append_right _ List.mem_cons_self)
      have hrv : ∀ x ∈ r, 97 ≤ x ∧ x ≤ 122 := fun x hx => hv x (by rw [e]; exact List.mem_append_right _ (List.mem_cons_of_mem _ hx))
      have hlv : v.length = u.length + (r.length + 1) := by rw [e, List.length_append, List.length_cons]
      have hdig := n27_digit (u := u) hrv hcv
      rw [← e] at hdig
      have hwl : (w ++ u).length < 150 := by
        rw [List.length_append]
        omega
      obtain ⟨s1, i1, a1, b1, b2, b3, b4, b5⟩ := m_write (cs := cs) (d := d - 1) (top := top) (sl := sl) (c := c) hM hk hwl (by omega)
      rw [List.append_assoc] at b3
      obtain ⟨s2, i2, a2, c1, c2, c3, c4, c5⟩ := ih (u ++ [c]) s1 i1 a1 v2 (by rw [e, List.append_assoc]; rfl) b2 b3
      have hp := p4 r.length (by omega)
      have hpos : 0 < 27 ^ r.length := Nat.pow_pos (by decide)
      refine ⟨s2, i2, a2, ?_, c2, c3, b4.trans c4, fun x hx => (c5 x hx).trans (b5 x hx)⟩
      rw [if_neg (by intro h; cases h), List.length_cons, Nat.add_sub_cancel]
      have nx : 27 ^ r.length / 27 = if r = [] then 0 else 27 ^ (r.length - 1) := by
        cases r with
        | nil => rfl
        | cons x r => rw [if_neg (by intro h; cases h), List.length_cons, Nat.add_sub_cancel, Nat.pow_succ, Nat.mul_div_cancel _ (by decide)]
      refine x_n cd_i132_20 rfl rfl ?_
      show am_to cd_t _ _ 132 21 _ _ _ _ _ _
      refine x_if_f cd_i132_21 (fun z => by have := (ii_le (b := 0) (by omega) (by decide)).mp (show ii (27 ^ r.length) ≤ ii 0 from z); omega) ?_
      refine x_n cd_i132_24 rfl rfl ?_
      refine x_bi cd_i132_25 (z := ii 96) (by decide) ?_
      refine x_n cd_i132_27 rfl rfl ?_
      refine x_n cd_i132_28 rfl rfl ?_
      show am_to cd_t _ _ 132 29 _ _ _ _ _ _
      refine x_idiv cd_i132_29 (fun z => by have := (ii_eq (b := 0) (by omega) (by decide)).mp (show ii (27 ^ r.length) = ii 0 from z); omega) (ii_div (by omega) (by omega)) ?_
      refine x_bi cd_i132_30 (z := ii 27) (by decide) ?_
      show am_to cd_t _ _ 132 32 _ _ _ _ _ _
      refine x_irem cd_i132_32 (fun z => absurd (show ii 27 = 0 from z) (by decide)) (ii_rem (by have := Nat.div_le_self (n27 v) (27 ^ r.length); omega) (by decide)) ?_
      rw [hdig]
      refine x_iadd cd_i132_33 (z := ii c) (by rw [ii_add]; congr 1; omega) ?_
      refine x_i2c cd_i132_34 (by omega) ?_
      refine x_callv (as' := [.int (ii c)]) (r := none) cd_i132_35 hM.1 (by omega) rfl rfl rfl rfl rfl rfl (b1) ?_
      refine x_n cd_i132_38 rfl rfl ?_
      refine x_bi cd_i132_39 (z := ii 27) (by decide) ?_
      show am_to cd_t _ _ 132 41 _ _ _ _ _ _
      refine x_idiv cd_i132_41 (fun z => absurd (show ii 27 = 0 from z) (by decide)) (ii_div (by omega) (by decide)) ?_
      rw [nx]
      refine x_n cd_i132_42 rfl rfl ?_
      try dsimp only [List.set]
      refine x_n cd_i132_43 rfl rfl ?_
      show am_to cd_t _ _ 132 20 _ _ _ _ _ _
      exact c1
  obtain ⟨s2, i2, a2, c1, c2⟩ := loop2 v [] σ i a (some (.int (ii (27 ^ (v.length - 1))))) rfl hM (by rw [List.append_nil]; exact hk)
  rw [if_neg (fun h => by rw [h] at h1; exact absurd h1 (by decide))] at c1
  have loop1 : ∀ (n k : Nat), k + n = v.length - 1 → am_to cd_t cs d 132 2 [some (.ref m), some (.int (ii (n27 v))), some (.int (ii (27 ^ k))), none] [] σ top sl (.inl none, s2, top, sl) := by
    intro n
    induction n with
    | zero =>
      intro k hkn
      have hp := p4 k (by omega)
      have hgt : n27 v / 27 < 27 ^ k := by
        rw [Nat.div_lt_iff_lt_mul (by decide), ← Nat.pow_succ]
        have : k.succ = v.length := by omega
        rw [this]
        exact hlt
      rw [show v.length - 1 = k by omega] at c1
      refine x_n cd_i132_2 rfl rfl ?_
      refine x_n cd_i132_3 rfl rfl ?_
      refine x_bi cd_i132_4 (z := ii 27) (by decide) ?_
      show am_to cd_t _ _ 132 6 _ _ _ _ _ _
      refine x_idiv cd_i132_6 (fun z => absurd (show ii 27 = 0 from z) (by decide)) (ii_div (by omega) (by decide)) ?_
      refine x_icmp_t cd_i132_7 (show ii (n27 v / 27) < ii (27 ^ k) from (ii_lt (by omega) (by omega)).mpr hgt) ?_
      refine x_n cd_i132_18 rfl rfl ?_
      refine x_n cd_i132_19 rfl rfl ?_
      try dsimp only [List.set]
      show am_to cd_t _ _ 132 20 _ _ _ _ _ _
      exact c1
    | succ n ih =>
      intro k hkn
      have hp := p4 (k + 1) (by omega)
      have hp0 := p4 k (by omega)
      have hle : 27 ^ k ≤ n27 v / 27 := by
        rw [Nat.le_div_iff_mul_le (by decide), ← Nat.pow_succ]
        exact Nat.le_trans (Nat.pow_le_pow_right (by decide) (show k + 1 ≤ v.length - 1 by omega)) hge
      refine x_n cd_i132_2 rfl rfl ?_
      refine x_n cd_i132_3 rfl rfl ?_
      refine x_bi cd_i132_4 (z := ii 27) (by decide) ?_
      show am_to cd_t _ _ 132 6 _ _ _ _ _ _
      refine x_idiv cd_i132_6 (fun z => absurd (show ii 27 = 0 from z) (by decide)) (ii_div (by omega) (by decide)) ?_
      refine x_icmp_f cd_i132_7 (fun z => by have := (ii_lt (by omega) (by omega)).mp (show ii (n27 v / 27) < ii (27 ^ k) from z); omega) ?_
      refine x_n cd_i132_10 rfl rfl ?_
      refine x_bi cd_i132_11 (z := ii 27) (by decide) ?_
      show am_to cd_t _ _ 132 13 _ _ _ _ _ _
      refine x_imul cd_i132_13 (z := ii (27 ^ (k + 1))) (by rw [ii_mul, Nat.pow_succ]) ?_
      refine x_n cd_i132_14 rfl rfl ?_
      try dsimp only [List.set]
      refine x_n cd_i132_15 rfl rfl ?_
      show am_to cd_t _ _ 132 2 _ _ _ _ _ _
      exact ih (k + 1) (by omega)
  refine ⟨s2, i2, a2, ?_, c2⟩
  refine x_ic cd_i132_0 (z := ii 1) rfl ?_
  refine x_n cd_i132_1 rfl rfl ?_
  try dsimp only [List.set]
  show am_to cd_t _ _ 132 2 _ _ _ _ _ _
  exact loop1 (v.length - 1) 0 (by omega)
end MKS
