/-! the desk's phrases -/
theorem sh_and {n s : Nat} (hn : n < 2147483648) (hs : s < 32) : (ii n >>> (ii s &&& 31)) &&& ii 255 = ii (n / 2 ^ s % 256) := by
  have e1 : ∀ s, s < 32 → ((ii s &&& 31 : Int32).toBitVec.smod 32).toNat = s := by decide
  rw [← Int32.toBitVec_inj]
  apply BitVec.eq_of_toNat_eq
  rw [Int32.toBitVec_and, Int32.toBitVec_shiftRight, BitVec.sshiftRight', e1 s hs]
  have hb : (ii n).toBitVec = BitVec.ofNat 32 n := rfl
  have hmsb : (BitVec.ofNat 32 n).msb = false := by
    rw [BitVec.msb_eq_decide, BitVec.toNat_ofNat, Nat.mod_eq_of_lt (by omega)]
    exact decide_eq_false (by omega)
  rw [hb, BitVec.sshiftRight_eq_of_msb_false hmsb, BitVec.toNat_and, BitVec.toNat_ushiftRight, BitVec.toNat_ofNat, Nat.mod_eq_of_lt (by omega)]
  have h255 : (ii 255).toBitVec.toNat = 2 ^ 8 - 1 := rfl
  rw [h255, Nat.and_two_pow_sub_one_eq_mod, Nat.shiftRight_eq_div_pow]
  have hr : (ii (n / 2 ^ s % 256)).toBitVec = BitVec.ofNat 32 (n / 2 ^ s % 256) := rfl
  rw [hr, BitVec.toNat_ofNat]
  have := Nat.mod_lt (n / 2 ^ s) (show 0 < 256 by decide)
  rw [Nat.mod_eq_of_lt (a := n / 2 ^ s % 256) (by omega)]
theorem take_app25 (w u : List Nat) : (w.take 25 ++ u).take 25 = (w ++ u).take 25 := by
  rw [List.take_append, List.take_append, List.take_take, List.length_take, Nat.min_self]
  by_cases h : w.length ≤ 25
  · rw [Nat.min_eq_right h]
  · rw [show 25 - min 25 w.length = 0 by omega, show 25 - w.length = 0 by omega]
section PH
variable {cs : Nat → Value} {d top sl : Nat} {σ : am_H}
theorem x_callb {y pc u k idx : Nat} {lv : am_V} {st as rest : List Value} {res : am_R} {r : Option Value} {σ1 : am_H} (hI : cd_I y pc = some (.invokestatic idx, u, k)) (hd : 0 < d) (hst : st = as.reverse ++ rest) (hk : as.length = k) (hsum : Nat.ble ((rest.map fun w => w.category).sum) 8 = true) (hu : Nat.blt 1000 u = true) (h1 : am_bi u as σ = some (r, σ1)) (h2 : am_to cd_t cs d y (pc + 3) lv (r.toList ++ rest) σ1 top sl res) : am_to cd_t cs d y pc lv st σ top sl res := by
  refine am_to_bi (t := cd_t) (as := as) (rest := rest) hI rfl ?_ (Nat.le_of_ble_eq_true hsum) (Nat.le_of_ble_eq_true hu) h1 h2
  subst hst
  subst hk
  show am_call cd_mc d _ σ _ u _ = _
  dsimp only [am_call]
  rw [if_neg (by rw [List.length_append, List.length_reverse]; omega)]
  have e1 : (as.reverse ++ rest).drop as.length = rest := by
    rw [List.drop_append_of_le_length (by rw [List.length_reverse]; exact Nat.le_refl _), List.drop_of_length_le (by rw [List.length_reverse]; exact Nat.le_refl _), List.nil_append]
  have e2 : (as.reverse ++ rest).take as.length = as.reverse := by
    rw [List.take_append_of_le_length (by rw [List.length_reverse]; exact Nat.le_refl _), List.take_of_length_le (by rw [List.length_reverse]; exact Nat.le_refl _)]
  rw [e1, e2, List.reverse_reverse]
theorem phr.len {p ty co : Nat} {w : List Nat} (h : phr σ p w ty co) : w.length ≤ 25 := by
  obtain ⟨f, h1, h2, h3, h4⟩ := h
  exact h3
theorem phr.kept {σ' : am_H} {p ty co : Nat} {w : List Nat} (h : phr σ p w ty co) (h1 : σ' p = σ p) (h2 : σ' (p + 1) = σ (p + 1)) : phr σ' p w ty co := by
  obtain ⟨f, g1, g2, g3⟩ := h
  exact ⟨f, h1.trans g1, h2.trans g2, g3⟩
theorem x_phAdd {p ty co c : Nat} {w : List Nat} (h : phr σ p w ty co) (hc : c < 127) :
    ∃ σ', am_to cd_t cs d 72 0 (am_ent 2 [.ref p, .int (ii c)]) [] σ top sl (.inl none, σ', top, sl) ∧ phr σ' p ((w ++ [c]).take 25) ty co ∧ ∀ x, x ≠ p → x ≠ p + 1 → σ' x = σ x := by
  obtain ⟨f, h1, h2, h3, h4⟩ := h
  by_cases hl : w.length < 25
  · have h1' : am_up σ (p + 1) (.inl (.char, 25, .inl (upd f w.length (vp_nar .char (ii c))))) p = some (.inr (.inl (8, [.ref (p + 1), .int (ii w.length), .int (ii ty), .int (ii co)]))) := by rw [am_up_ne _ _ (by omega)]; exact h1
    have el : (w ++ [c]).length = w.length + 1 := List.length_append
    have et : (w ++ [c]).take 25 = w ++ [c] := List.take_of_length_le (by omega)
    rw [et]
    refine ⟨am_up (am_up σ (p + 1) (.inl (.char, 25, .inl (upd f w.length (vp_nar .char (ii c)))))) p (.inr (.inl (8, [.ref (p + 1), .int (ii (w.length + 1)), .int (ii ty), .int (ii co)]))), ?_, ⟨upd f w.length (vp_nar .char (ii c)), by rw [am_up_self, el], by rw [am_up_ne _ _ (by omega), am_up_self], by omega, fun j hj => ?_⟩, fun x g1 g2 => by rw [am_up_ne _ _ g1, am_up_ne _ _ g2]⟩
    · refine x_n cd_i72_0 rfl rfl ?_
      refine x_getf cd_i72_1 (by assumption) rfl rfl ?_
      refine x_n cd_i72_4 rfl rfl ?_
      refine x_getf cd_i72_5 (by assumption) rfl rfl ?_
      show am_to cd_t _ _ 72 8 _ _ _ _ _ _
      refine x_len cd_i72_8 h2 ?_
      refine x_icmp_f cd_i72_9 (fun z => by have := (ii_le (by decide) (by omega)).mp (show ii 25 ≤ ii w.length from z); omega) ?_
      refine x_n cd_i72_12 rfl rfl ?_
      refine x_getf cd_i72_13 (by assumption) rfl rfl ?_
      refine x_n cd_i72_16 rfl rfl ?_
      refine x_getf cd_i72_17 (by assumption) rfl rfl ?_
      refine x_n cd_i72_20 rfl rfl ?_
      show am_to cd_t _ _ 72 21 _ _ _ _ _ _
      refine x_castore cd_i72_21 h2 hl (by decide) ?_
      refine x_n cd_i72_22 rfl rfl ?_
      refine x_n cd_i72_23 rfl rfl ?_
      refine x_getf cd_i72_24 (by assumption) rfl rfl ?_
      refine x_ic cd_i72_27 (z := ii 1) rfl ?_
      show am_to cd_t _ _ 72 28 _ _ _ _ _ _
      refine x_iadd cd_i72_28 (ii_add _ _) ?_
      refine x_putf cd_i72_29 (fs' := [.ref (p + 1), .int (ii (w.length + 1)), .int (ii ty), .int (ii co)]) h1' rfl rfl rfl ?_
      exact x_end cd_i72_32 rfl rfl rfl
    · rw [el] at hj
      rw [getD_snoc hj]
      by_cases e : j = w.length
      · rw [if_pos e, e, upd_eq, nar_char_ii (by omega)]
      · rw [if_neg e, upd_ne e]
        exact h4 j (by omega)
  · have et : (w ++ [c]).take 25 = w := by
      rw [List.take_append_of_le_length (by omega), List.take_of_length_le (by omega)]
    rw [et]
    refine ⟨σ, ?_, ⟨f, h1, h2, h3, h4⟩, fun _ _ _ => rfl⟩
    refine x_n cd_i72_0 rfl rfl ?_
    refine x_getf cd_i72_1 (by assumption) rfl rfl ?_
    refine x_n cd_i72_4 rfl rfl ?_
    refine x_getf cd_i72_5 (by assumption) rfl rfl ?_
    show am_to cd_t _ _ 72 8 _ _ _ _ _ _
    refine x_len cd_i72_8 h2 ?_
    refine x_icmp_t cd_i72_9 ((ii_le (by decide) (by omega)).mpr (by omega)) ?_
    exact x_end cd_i72_32 rfl rfl rfl
/-- the letter that a name has at a place from its end -/
theorem n256_digit : ∀ (v : List Nat) (k : Nat), (∀ c ∈ v, 97 ≤ c ∧ c ≤ 122) → v.length ≤ 4 → k < 4 → n256 v / 2 ^ (8 * k) % 256 = if k < v.length then v.getD (v.length - 1 - k) 0 else 0
  | [], k, _, _, hk => by
    rw [if_neg (show ¬ k < ([] : List Nat).length from Nat.not_lt_zero k)]
    show 0 / _ % 256 = 0
    rw [Nat.zero_div]
  | [a], k, h, _, hk => by
    have ha := h a List.mem_cons_self
    have e : n256 [a] = a := by show 0 * 256 + a = a; omega
    rw [e]
    rcases (show k = 0 ∨ k = 1 ∨ k = 2 ∨ k = 3 by omega) with rfl | rfl | rfl | rfl
    · show a / 1 % 256 = a; omega
    · show a / 256 % 256 = 0; omega
    · show a / 65536 % 256 = 0; omega
    · show a / 16777216 % 256 = 0; omega
  | [a, b], k, h, _, hk => by
    have ha := h a List.mem_cons_self
    have hb := h b (List.mem_cons_of_mem _ List.mem_cons_self)
    have e : n256 [a, b] = a * 256 + b := by show (0 * 256 + a) * 256 + b = a * 256 + b; omega
    rw [e]
    rcases (show k = 0 ∨ k = 1 ∨ k = 2 ∨ k = 3 by omega) with rfl | rfl | rfl | rfl
    · show (a * 256 + b) / 1 % 256 = b; omega
    · show (a * 256 + b) / 256 % 256 = a; omega
    · show (a * 256 + b) / 65536 % 256 = 0; omega
    · show (a * 256 + b) / 16777216 % 256 = 0; omega
  | [a, b, c], k, h, _, hk => by
    have ha := h a List.mem_cons_self
    have hb := h b (List.mem_cons_of_mem _ List.mem_cons_self)
    have hc := h c (List.mem_cons_of_mem _ (List.mem_cons_of_mem _ List.mem_cons_self))
    have e : n256 [a, b, c] = (a * 256 + b) * 256 + c := by show ((0 * 256 + a) * 256 + b) * 256 + c = _; omega
    rw [e]
    rcases (show k = 0 ∨ k = 1 ∨ k = 2 ∨ k = 3 by omega) with rfl | rfl | rfl | rfl
    · show ((a * 256 + b) * 256 + c) / 1 % 256 = c; omega
    · show ((a * 256 + b) * 256 + c) / 256 % 256 = b; omega
    · show ((a * 256 + b) * 256 + c) / 65536 % 256 = a; omega
    · show ((a * 256 + b) * 256 + c) / 16777216 % 256 = 0; omega
  | [a, b, c, e], k, h, _, hk => by
    have ha := h a List.mem_cons_self
    have hb := h b (List.mem_cons_of_mem _ List.mem_cons_self)
    have hc := h c (List.mem_cons_of_mem _ (List.mem_cons_of_mem _ List.mem_cons_self))
    have he := h e (List.mem_cons_of_mem _ (List.mem_cons_of_mem _ (List.mem_cons_of_mem _ List.mem_cons_self)))
    have ee : n256 [a, b, c, e] = ((a * 256 + b) * 256 + c) * 256 + e := by show (((0 * 256 + a) * 256 + b) * 256 + c) * 256 + e = _; omega
    rw [ee]
    rcases (show k = 0 ∨ k = 1 ∨ k = 2 ∨ k = 3 by omega) with rfl | rfl | rfl | rfl
    · show (((a * 256 + b) * 256 + c) * 256 + e) / 1 % 256 = e; omega
    · show (((a * 256 + b) * 256 + c) * 256 + e) / 256 % 256 = c; omega
    · show (((a * 256 + b) * 256 + c) * 256 + e) / 65536 % 256 = b; omega
    · show (((a * 256 + b) * 256 + c) * 256 + e) / 16777216 % 256 = a; omega
  | _ :: _ :: _ :: _ :: _ :: _, k, _, h, _ => by
    simp at h
theorem x_phName {p ty co : Nat} {w v : List Nat} (hd : 0 < d) (h : phr σ p w ty co) (hv : ∀ c ∈ v, 97 ≤ c ∧ c ≤ 122) (h4 : v.length ≤ 4) :
    ∃ σ', am_to cd_t cs d 71 0 (am_ent 4 [.ref p, .int (ii (n256 v))]) [] σ top sl (.inl none, σ', top, sl) ∧ phr σ' p ((w ++ v).take 25) ty co ∧ ∀ x, x ≠ p → x ≠ p + 1 → σ' x = σ x := by
  have hs := n256_small hv h4
  have loop : ∀ (n : Nat) (σ : am_H) (v3 : Option Value) (s : Int32), n ≤ 4 → s = (if n = 0 then -8 else ii (8 * (n - 1))) → phr σ p ((w ++ v.take (v.length - n)).take 25) ty co →
      ∃ σ', am_to cd_t cs d 71 3 [some (.ref p), some (.int (ii (n256 v))), some (.int s), v3] [] σ top sl (.inl none, σ', top, sl) ∧ phr σ' p ((w ++ v).take 25) ty co ∧ ∀ x, x ≠ p → x ≠ p + 1 → σ' x = σ x := by
    intro n
    induction n with
    | zero =>
      intro σ v3 s _ hs0 h
      rw [if_pos rfl] at hs0
      rw [Nat.sub_zero, List.take_length] at h
      refine ⟨σ, ?_, h, fun _ _ _ => rfl⟩
      rw [hs0]
      refine x_n cd_i71_3 rfl rfl ?_
      show am_to cd_t _ _ 71 4 _ _ _ _ _ _
      refine x_if_t cd_i71_4 (show (-8 : Int32) < 0 by decide) ?_
      exact x_end cd_i71_31 rfl rfl rfl
    | succ n ih =>
      intro σ v3 s hn hs0 h
      rw [if_neg (by omega), Nat.add_sub_cancel] at hs0
      have hdig := n256_digit v n hv h4 (by omega)
      have nx : ii (8 * n) + Int32.ofInt (-8) = (if n = 0 then -8 else ii (8 * (n - 1))) := by
        have : ∀ n, n < 4 → ii (8 * n) + Int32.ofInt (-8) = (if n = 0 then -8 else ii (8 * (n - 1))) := by decide
        exact this n (by omega)
      have head : ∀ res, am_to cd_t cs d 71 16 [some (.ref p), some (.int (ii (n256 v))), some (.int (ii (8 * n))), some (.int (ii (if n < v.length then v.getD (v.length - 1 - n) 0 else 0)))] [.int (ii (if n < v.length then v.getD (v.length - 1 - n) 0 else 0))] σ top sl res → am_to cd_t cs d 71 3 [some (.ref p), some (.int (ii (n256 v))), some (.int s), v3] [] σ top sl res := by
        intro res hh
        rw [hs0]
        refine x_n cd_i71_3 rfl rfl ?_
        show am_to cd_t _ _ 71 4 _ _ _ _ _ _
        refine x_if_f cd_i71_4 (ii_neg (by omega)) ?_
        refine x_n cd_i71_7 rfl rfl ?_
        refine x_n cd_i71_8 rfl rfl ?_
        show am_to cd_t _ _ 71 9 _ _ _ _ _ _
        refine x_ishr cd_i71_9 rfl ?_
        refine x_si cd_i71_10 (z := ii 255) (by decide) ?_
        refine x_iand cd_i71_13 ((sh_and hs (by omega)).trans (congrArg ii hdig)) ?_
        refine x_n cd_i71_14 rfl rfl ?_
        try dsimp only [List.set]
        refine x_n cd_i71_15 rfl rfl ?_
        show am_to cd_t _ _ 71 16 _ _ _ _ _ _
        exact hh
      by_cases hnv : n < v.length
      · rw [if_pos hnv] at head
        have hk : v.length - 1 - n < v.length := by omega
        have hlet : 97 ≤ v.getD (v.length - 1 - n) 0 ∧ v.getD (v.length - 1 - n) 0 ≤ 122 := by
          rw [List.getD_eq_getElem?_getD, List.getElem?_eq_getElem hk]
          exact hv _ (List.getElem_mem hk)
        obtain ⟨s1, b1, b2, b3⟩ := x_phAdd (cs := cs) (d := d - 1) (top := top) (sl := sl) (c := v.getD (v.length - 1 - n) 0) h (by omega)
        have et : ((w ++ v.take (v.length - (n + 1))).take 25 ++ [v.getD (v.length - 1 - n) 0]).take 25 = (w ++ v.take (v.length - n)).take 25 := by
          rw [take_app25, List.append_assoc]
          have : v.take (v.length - (n + 1)) ++ [v.getD (v.length - 1 - n) 0] = v.take (v.length - n) := by
            rw [show v.length - n = v.length - (n + 1) + 1 by omega, List.take_add_one, List.getD_eq_getElem?_getD, show v.length - 1 - n = v.length - (n + 1) by omega, List.getElem?_eq_getElem (by omega)]
            rfl
          rw [this]
        rw [et] at b2
        obtain ⟨s2, c1, c2, c3⟩ := ih s1 (some (.int (ii (v.getD (v.length - 1 - n) 0)))) _ (by omega) rfl b2
        refine ⟨s2, head _ ?_, c2, fun x g1 g2 => (c3 x g1 g2).trans (b3 x g1 g2)⟩
        refine x_if_f cd_i71_16 (fun z => by have := (ii_eq (b := 0) (by omega) (by decide)).mp (show ii (v.getD (v.length - 1 - n) 0) = ii 0 from z); omega) ?_
        refine x_n cd_i71_19 rfl rfl ?_
        refine x_n cd_i71_20 rfl rfl ?_
        show am_to cd_t _ _ 71 21 _ _ _ _ _ _
        refine x_i2c cd_i71_21 (by omega) ?_
        obtain ⟨f, hp, -⟩ := id h
        refine x_callv (as' := [.int (ii (v.getD (v.length - 1 - n) 0))]) (r := none) cd_i71_22 hp (by omega) rfl rfl rfl rfl rfl rfl b1 ?_
        refine x_iinc cd_i71_25 rfl nx rfl ?_
        refine x_n cd_i71_28 rfl rfl ?_
        show am_to cd_t _ _ 71 3 _ _ _ _ _ _
        exact c1
      · rw [if_neg hnv] at head
        obtain ⟨s2, c1, c2, c3⟩ := ih σ (some (.int (ii 0))) _ (by omega) rfl (by rw [show v.length - n = v.length - (n + 1) by omega]; exact h)
        refine ⟨s2, head _ (x_if_t cd_i71_16 rfl ?_), c2, c3⟩
        refine x_iinc cd_i71_25 rfl nx rfl ?_
        refine x_n cd_i71_28 rfl rfl ?_
        show am_to cd_t _ _ 71 3 _ _ _ _ _ _
        exact c1
  obtain ⟨s2, c1, c2, c3⟩ := loop 4 σ none (ii 24) (by decide) rfl (by
    rw [show v.length - 4 = 0 by omega, List.take_zero, List.append_nil, List.take_of_length_le h.len]
    exact h)
  refine ⟨s2, ?_, c2, c3⟩
  refine x_bi cd_i71_0 (z := ii 24) (by decide) ?_
  refine x_n cd_i71_2 rfl rfl ?_
  try dsimp only [List.set]
  show am_to cd_t _ _ 71 3 _ _ _ _ _ _
  exact c1
theorem x_phText {p ty co a : Nat} {w u : List Nat} {ad : Nat → Nat} (hd : 3 < d) (hcs : csOk cs ad) (h : phr σ p w ty co) (hu : ∀ σ' : am_H, (∀ x, x ≠ p → x ≠ p + 1 → σ' x = σ x) → strK σ' a u) (hlt : ∀ c ∈ u, c < 127) :
    ∃ σ', am_to cd_t cs d 80 0 (am_ent 3 [.ref p, .ref a]) [] σ top sl (.inl none, σ', top, sl) ∧ phr σ' p ((w ++ u).take 25) ty co ∧ ∀ x, x ≠ p → x ≠ p + 1 → σ' x = σ x := by
  have loop : ∀ (n k : Nat) (s : am_H), k + n = u.length → (∀ x, x ≠ p → x ≠ p + 1 → s x = σ x) → phr s p ((w ++ u.take k).take 25) ty co →
      ∃ σ', am_to cd_t cs d 80 2 [some (.ref p), some (.ref a), some (.int (ii k))] [] s top sl (.inl none, σ', top, sl) ∧ phr σ' p ((w ++ u).take 25) ty co ∧ ∀ x, x ≠ p → x ≠ p + 1 → σ' x = σ x := by
    intro n
    induction n with
    | zero =>
      intro k s hk hf h
      have hs := hu s hf
      have hL := x_strlen (cs := cs) (d := d - 1) (top := top) (sl := sl) (by omega) hcs hs
      obtain ⟨v, f, g, h1, h2, h3, h4, h5⟩ := id hs
      rw [show k = u.length by omega, List.take_length] at h
      refine ⟨s, ?_, h, hf⟩
      refine x_n cd_i80_2 rfl rfl ?_
      refine x_n cd_i80_3 rfl rfl ?_
      show am_to cd_t _ _ 80 4 _ _ _ _ _ _
      refine x_callk (as' := []) cd_i80_4 h1 rfl (by omega) rfl rfl rfl rfl rfl rfl hL ?_
      refine x_icmp_t cd_i80_7 ((ii_le (by omega) (by omega)).mpr (by omega)) ?_
      exact x_end cd_i80_25 rfl rfl rfl
    | succ n ih =>
      intro k s hk hf h
      have hs := hu s hf
      have hL := x_strlen (cs := cs) (d := d - 1) (top := top) (sl := sl) (by omega) hcs hs
      have hA := x_strAt (cs := cs) (d := d - 1) (top := top) (sl := sl) (i := k) (by omega) hcs hs (by omega)
      obtain ⟨v, f, g, h1, h2, h3, h4, h5⟩ := id hs
      have hkl : k < u.length := by omega
      have hc : u.getD k 0 < 127 := by
        rw [List.getD_eq_getElem?_getD, List.getElem?_eq_getElem hkl]
        exact hlt _ (List.getElem_mem hkl)
      obtain ⟨s1, b1, b2, b3⟩ := x_phAdd (cs := cs) (d := d - 1) (top := top) (sl := sl) (c := u.getD k 0) h hc
      have et : ((w ++ u.take k).take 25 ++ [u.getD k 0]).take 25 = (w ++ u.take (k + 1)).take 25 := by
        have e : u.take k ++ [u.getD k 0] = u.take (k + 1) := by
          rw [List.take_add_one, List.getD_eq_getElem?_getD, List.getElem?_eq_getElem hkl]
          rfl
        rw [take_app25, List.append_assoc, e]
      rw [et] at b2
      obtain ⟨s2, c1, c2, c3⟩ := ih (k + 1) s1 (by omega) (fun x g1 g2 => (b3 x g1 g2).trans (hf x g1 g2)) b2
      refine ⟨s2, ?_, c2, c3⟩
      obtain ⟨ff, hp, -⟩ := id h
      refine x_n cd_i80_2 rfl rfl ?_
      refine x_n cd_i80_3 rfl rfl ?_
      show am_to cd_t _ _ 80 4 _ _ _ _ _ _
      refine x_callk (as' := []) cd_i80_4 h1 rfl (by omega) rfl rfl rfl rfl rfl rfl hL ?_
      refine x_icmp_f cd_i80_7 (fun z => by have := (ii_le (by omega) (by omega)).mp (show ii u.length ≤ ii k from z); omega) ?_
      refine x_n cd_i80_10 rfl rfl ?_
      refine x_n cd_i80_11 rfl rfl ?_
      refine x_n cd_i80_12 rfl rfl ?_
      show am_to cd_t _ _ 80 13 _ _ _ _ _ _
      refine x_callk (as' := [.int (ii k)]) cd_i80_13 h1 rfl (by omega) rfl rfl rfl rfl rfl rfl hA ?_
      refine x_callv (as' := [.int (ii (u.getD k 0))]) (r := none) cd_i80_16 hp (by omega) rfl rfl rfl rfl rfl rfl b1 ?_
      refine x_iinc cd_i80_19 rfl (ii_add _ 1) rfl ?_
      refine x_n cd_i80_22 rfl rfl ?_
      show am_to cd_t _ _ 80 2 _ _ _ _ _ _
      exact c1
  obtain ⟨s2, c1, c2, c3⟩ := loop u.length 0 σ (Nat.zero_add _) (fun _ _ _ => rfl) (by rw [List.take_zero, List.append_nil, List.take_of_length_le h.len]; exact h)
  refine ⟨s2, ?_, c2, c3⟩
  refine x_ic cd_i80_0 (z := ii 0) rfl ?_
  refine x_n cd_i80_1 rfl rfl ?_
  try dsimp only [List.set]
  show am_to cd_t _ _ 80 2 _ _ _ _ _ _
  exact c1
theorem x_phClass {p ty co c : Nat} {w : List Nat} (hd : 0 < d) (h : phr σ p w ty co) (hc : c < 10) :
    ∃ σ', am_to cd_t cs d 81 0 (am_ent 2 [.ref p, .int (ii c)]) [] σ top sl (.inl none, σ', top, sl) ∧ phr σ' p ((w ++ [65 + c]).take 25) ty co ∧ ∀ x, x ≠ p → x ≠ p + 1 → σ' x = σ x := by
  obtain ⟨s1, b1, b2, b3⟩ := x_phAdd (cs := cs) (d := d - 1) (top := top) (sl := sl) (c := 65 + c) h (by omega)
  refine ⟨s1, ?_, b2, b3⟩
  obtain ⟨f, hp, -⟩ := id h
  refine x_n cd_i81_0 rfl rfl ?_
  refine x_bi cd_i81_1 (z := ii 65) (by decide) ?_
  refine x_n cd_i81_3 rfl rfl ?_
  show am_to cd_t _ _ 81 4 _ _ _ _ _ _
  refine x_iadd cd_i81_4 (ii_add _ _) ?_
  refine x_i2c cd_i81_5 (by omega) ?_
  refine x_callv (as' := [.int (ii (65 + c))]) (r := none) cd_i81_6 hp (by omega) rfl rfl rfl rfl rfl rfl b1 ?_
  exact x_end cd_i81_9 rfl rfl rfl
end PH
