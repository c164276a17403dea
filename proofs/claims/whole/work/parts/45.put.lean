/-! numbers -/
theorem ii_self (x : Int32) : x = ii x.toBitVec.toNat := by
  apply Int32.toBitVec_inj.mp
  show x.toBitVec = BitVec.ofNat 32 x.toBitVec.toNat
  apply BitVec.eq_of_toNat_eq
  rw [BitVec.toNat_ofNat]
  exact (Nat.mod_eq_of_lt x.toBitVec.isLt).symm
theorem ii_bv {n : Nat} (h : n < 4294967296) : (ii n).toBitVec.toNat = n := by
  show (BitVec.ofNat 32 n).toNat = n
  rw [BitVec.toNat_ofNat]
  exact Nat.mod_eq_of_lt h
theorem and255 (x : Int32) : (x &&& ii 255).toBitVec.toNat < 256 := by
  show (x.toBitVec &&& (ii 255).toBitVec).toNat < 256
  rw [BitVec.toNat_and, ii_bv (by decide)]
  exact Nat.lt_of_le_of_lt Nat.and_le_right (by decide)
theorem i2c_ii {c : Nat} (h : c < 65536) : ((ii c).toUInt32 % 65536).toInt32 = ii c := by
  apply Int32.toBitVec_inj.mp
  apply BitVec.eq_of_toNat_eq
  show ((ii c).toBitVec % (65536 : UInt32).toBitVec).toNat = (ii c).toBitVec.toNat
  rw [BitVec.toNat_umod, ii_bv (by omega)]
  exact Nat.mod_eq_of_lt h
theorem nar_char_ii {c : Nat} (h : c < 65536) : vp_nar .char (ii c) = ii c := by
  rw [vp_nar_char]
  apply Int32.toBitVec_inj.mp
  apply BitVec.eq_of_toNat_eq
  show (((ii c).toBitVec.setWidth 16).setWidth 32).toNat = (ii c).toBitVec.toNat
  rw [BitVec.toNat_setWidth, BitVec.toNat_setWidth, ii_bv (by omega)]
  omega
/-- the letter k of a word, from its right -/
def cn (w : Int32) (k : Nat) : Nat := (w >>> (ii (8 * k) &&& 31) &&& ii 255).toBitVec.toNat
theorem cn_ii (w : Int32) (k : Nat) : w >>> (ii (8 * k) &&& 31) &&& ii 255 = ii (cn w k) := ii_self _
theorem cn_lt (w : Int32) (k : Nat) : cn w k < 256 := and255 _
abbrev cok (c : Nat) : Prop := 32 ≤ c ∧ c ≤ 126
/-- what a put leaves: nothing where it is refused -/
def putM (txt : List Nat) (w n : Int32) : Option (List Nat) := if 1 ≤ n.toInt ∧ n.toInt ≤ 4 ∧ txt.length + n.toNatClampNeg ≤ 120 ∧ ∀ k, k < n.toNatClampNeg → cok (cn w k) then some (txt ++ (List.range n.toNatClampNeg).map (fun i => cn w (n.toNatClampNeg - 1 - i))) else none
/-- the desk's buffer holds txt, and is read up to pos -/
def X_buf (σ : am_H) (b : Nat) (txt : List Nat) (pos : Nat) : Prop := σ (b + 1) = some (.inr (.inl (1, [.ref (b + 2), .int (ii txt.length), .int (ii pos)]))) ∧ txt.length ≤ 120 ∧ ∃ f, σ (b + 2) = some (.inl (.char, 120, .inl f)) ∧ ∀ j, j < txt.length → f j = ii (txt.getD j 0)
theorem X_buf.kept {σ σ' : am_H} {b pos : Nat} {txt : List Nat} (h : X_buf σ b txt pos) (h1 : σ' (b + 1) = σ (b + 1)) (h2 : σ' (b + 2) = σ (b + 2)) : X_buf σ' b txt pos := by
  obtain ⟨g1, g2, f, g3, g4⟩ := h
  exact ⟨h1.trans g1, g2, f, h2.trans g3, g4⟩
section PX
variable {cs : Nat → Value} {d b top sl : Nat}
theorem x_append_loop {txt : List Nat} {pos n : Nat} {w : Int32} (hn : n ≤ 4) (hlen : txt.length + n ≤ 120) : ∀ (k i : Nat) (f : Nat → Int32) (σ : am_H) (v4 : Option Value), i + k = n → σ (b + 1) = some (.inr (.inl (1, [.ref (b + 2), .int (ii txt.length), .int (ii pos)]))) → σ (b + 2) = some (.inl (.char, 120, .inl f)) → (∀ j, j < txt.length → f j = ii (txt.getD j 0)) → (∀ j, j < i → f (txt.length + j) = ii (cn w (n - 1 - j)) ∧ cok (cn w (n - 1 - j))) →
    ∃ (σ' : am_H) (r : Int32), am_to cd_t cs d 11 25 [some (.ref (b + 1)), some (.int w), some (.int (ii n)), some (.int (ii i)), v4] [] σ top sl (.inl (some (.int r)), σ', top, sl) ∧ (∀ q, q ≠ b + 1 → q ≠ b + 2 → σ' q = σ q) ∧
      ((r = 1 ∧ (∀ k, k < n → cok (cn w k)) ∧ X_buf σ' b (txt ++ (List.range n).map (fun i => cn w (n - 1 - i))) pos) ∨ (r = 0 ∧ (¬ ∀ k, k < n → cok (cn w k)) ∧ X_buf σ' b txt pos))
  | 0, i, f, σ, v4, hi, hB, hL, hf, hg => by
    obtain rfl : i = n := by omega
    refine ⟨am_up σ (b + 1) (.inr (.inl (1, [.ref (b + 2), .int (ii (txt.length + i)), .int (ii pos)]))), 1, ?_, fun q h1 h2 => am_up_ne _ _ h1, Or.inl ⟨rfl, fun k hk => ?_, ?_, ?_, f, ?_, fun j hj => ?_⟩⟩
    · refine x_n cd_i11_25 rfl rfl ?_
      refine x_n cd_i11_26 rfl rfl ?_
      show am_to cd_t _ _ 11 27 _ _ _ _ _ _
      refine x_icmp_t cd_i11_27 (by show ii i ≤ ii i; exact (ii_le (by omega) (by omega)).mpr (Nat.le_refl _)) ?_
      refine x_n cd_i11_82 rfl rfl ?_
      refine x_n cd_i11_83 rfl rfl ?_
      refine x_getf cd_i11_84 (by assumption) rfl rfl ?_
      refine x_n cd_i11_87 rfl rfl ?_
      show am_to cd_t _ _ 11 88 _ _ _ _ _ _
      refine x_iadd cd_i11_88 (z := ii (txt.length + i)) (ii_add _ _) ?_
      refine x_putf cd_i11_89 (fs' := [.ref (b + 2), .int (ii (txt.length + i)), .int (ii pos)]) hB rfl rfl rfl ?_
      refine x_ic cd_i11_92 (z := ii 1) rfl ?_
      show am_to cd_t _ _ 11 93 _ _ _ _ _ _
      exact x_end cd_i11_93 rfl rfl rfl
    · have := (hg (i - 1 - k) (by omega)).2
      rw [show i - 1 - (i - 1 - k) = k by omega] at this
      exact this
    · rw [am_up_self, List.length_append, List.length_map, List.length_range]
    · rw [List.length_append, List.length_map, List.length_range]
      exact hlen
    · rw [am_up_ne _ _ (by omega)]
      exact hL
    · rw [List.length_append, List.length_map, List.length_range] at hj
      by_cases h1 : j < txt.length
      · rw [hf j h1, List.getD_eq_getElem?_getD, List.getD_eq_getElem?_getD, List.getElem?_append_left h1]
      · have h2 := (hg (j - txt.length) (by omega)).1
        rw [show txt.length + (j - txt.length) = j by omega] at h2
        rw [h2, List.getD_eq_getElem?_getD, List.getElem?_append_right (by omega), List.getElem?_map, List.getElem?_range (by omega)]
        rfl
  | k + 1, i, f, σ, v4, hi, hB, hL, hf, hg => by
    have hs : w >>> (ii 8 * (ii n - ii 1 - ii i) &&& 31) &&& ii 255 = ii (cn w (n - 1 - i)) := by
      rw [ii_sub (by omega), ii_sub (by omega), ii_mul, cn_ii]
    by_cases hc : cok (cn w (n - 1 - i))
    · obtain ⟨σ', r, h1, h2, h3⟩ := x_append_loop hn hlen k (i + 1) (upd f (txt.length + i) (ii (cn w (n - 1 - i)))) (am_up σ (b + 2) (.inl (.char, 120, .inl (upd f (txt.length + i) (ii (cn w (n - 1 - i))))))) (some (.int (ii (cn w (n - 1 - i))))) (by omega) ((am_up_ne _ _ (by omega)).trans hB) (am_up_self _ _ _)
        (fun j hj => by
          unfold upd
          rw [if_neg (by omega)]
          exact hf j hj)
        (fun j hj => by
          unfold upd
          by_cases e : j = i
          · rw [if_pos (by omega), e]
            exact ⟨rfl, hc⟩
          · rw [if_neg (by omega)]
            exact hg j (by omega))
      refine ⟨σ', r, ?_, fun q g1 g2 => (h2 q g1 g2).trans (am_up_ne _ _ g2), h3⟩
      refine x_n cd_i11_25 rfl rfl ?_
      refine x_n cd_i11_26 rfl rfl ?_
      show am_to cd_t _ _ 11 27 _ _ _ _ _ _
      refine x_icmp_f cd_i11_27 (fun z => by have := (ii_le (by omega) (by omega)).mp (show ii n ≤ ii i from z); omega) ?_
      refine x_n cd_i11_30 rfl rfl ?_
      refine x_bi cd_i11_31 (z := ii 8) (by decide) ?_
      refine x_n cd_i11_33 rfl rfl ?_
      refine x_ic cd_i11_34 (z := ii 1) rfl ?_
      refine x_isub cd_i11_35 rfl ?_
      refine x_n cd_i11_36 rfl rfl ?_
      refine x_isub cd_i11_37 rfl ?_
      refine x_imul cd_i11_38 rfl ?_
      refine x_ishr cd_i11_39 rfl ?_
      refine x_si cd_i11_40 (z := ii 255) (by decide) ?_
      show am_to cd_t _ _ 11 43 _ _ _ _ _ _
      refine x_iand cd_i11_43 hs ?_
      refine x_n cd_i11_44 rfl rfl ?_
      try dsimp only [List.set]
      refine x_n cd_i11_46 rfl rfl ?_
      refine x_bi cd_i11_48 (z := ii 32) (by decide) ?_
      show am_to cd_t _ _ 11 50 _ _ _ _ _ _
      refine x_icmp_f cd_i11_50 (fun z => by have := (ii_lt (by have := cn_lt w (n - 1 - i); omega) (by decide)).mp (show ii (cn w (n - 1 - i)) < ii 32 from z); have := hc.1; omega) ?_
      refine x_n cd_i11_53 rfl rfl ?_
      refine x_bi cd_i11_55 (z := ii 126) (by decide) ?_
      show am_to cd_t _ _ 11 57 _ _ _ _ _ _
      refine x_icmp_t cd_i11_57 ((ii_le (by have := cn_lt w (n - 1 - i); omega) (by decide)).mpr hc.2) ?_
      refine x_n cd_i11_62 rfl rfl ?_
      refine x_getf cd_i11_63 (by assumption) rfl rfl ?_
      refine x_n cd_i11_66 rfl rfl ?_
      refine x_getf cd_i11_67 (by assumption) rfl rfl ?_
      refine x_n cd_i11_70 rfl rfl ?_
      show am_to cd_t _ _ 11 71 _ _ _ _ _ _
      refine x_iadd cd_i11_71 (z := ii (txt.length + i)) (ii_add _ _) ?_
      refine x_n cd_i11_72 rfl rfl ?_
      show am_to cd_t _ _ 11 74 _ _ _ _ _ _
      refine x_n cd_i11_74 rfl rfl ?_
      rw [i2c_ii (by have := cn_lt w (n - 1 - i); omega)]
      refine x_castore cd_i11_75 hL (by omega) (by decide) ?_
      rw [nar_char_ii (by have := cn_lt w (n - 1 - i); omega)]
      refine x_iinc cd_i11_76 rfl (z := ii (i + 1)) (ii_add i 1) rfl ?_
      refine x_n cd_i11_79 rfl rfl ?_
      show am_to cd_t _ _ 11 25 _ _ _ _ _ _
      exact h1
    · refine ⟨σ, 0, ?_, fun q _ _ => rfl, Or.inr ⟨rfl, fun h => hc (h _ (by omega)), hB, by omega, f, hL, hf⟩⟩
      refine x_n cd_i11_25 rfl rfl ?_
      refine x_n cd_i11_26 rfl rfl ?_
      show am_to cd_t _ _ 11 27 _ _ _ _ _ _
      refine x_icmp_f cd_i11_27 (fun z => by have := (ii_le (by omega) (by omega)).mp (show ii n ≤ ii i from z); omega) ?_
      refine x_n cd_i11_30 rfl rfl ?_
      refine x_bi cd_i11_31 (z := ii 8) (by decide) ?_
      refine x_n cd_i11_33 rfl rfl ?_
      refine x_ic cd_i11_34 (z := ii 1) rfl ?_
      refine x_isub cd_i11_35 rfl ?_
      refine x_n cd_i11_36 rfl rfl ?_
      refine x_isub cd_i11_37 rfl ?_
      refine x_imul cd_i11_38 rfl ?_
      refine x_ishr cd_i11_39 rfl ?_
      refine x_si cd_i11_40 (z := ii 255) (by decide) ?_
      show am_to cd_t _ _ 11 43 _ _ _ _ _ _
      refine x_iand cd_i11_43 hs ?_
      refine x_n cd_i11_44 rfl rfl ?_
      try dsimp only [List.set]
      refine x_n cd_i11_46 rfl rfl ?_
      refine x_bi cd_i11_48 (z := ii 32) (by decide) ?_
      show am_to cd_t _ _ 11 50 _ _ _ _ _ _
      refine x_icmp cd_i11_50 (fun z => ?_) (fun z => ?_)
      · refine x_ic cd_i11_60 (z := ii 0) rfl ?_
        show am_to cd_t _ _ 11 61 _ _ _ _ _ _
        exact x_end cd_i11_61 rfl rfl rfl
      · refine x_n cd_i11_53 rfl rfl ?_
        refine x_bi cd_i11_55 (z := ii 126) (by decide) ?_
        show am_to cd_t _ _ 11 57 _ _ _ _ _ _
        refine x_icmp_f cd_i11_57 (fun z2 => hc ⟨?_, ?_⟩) ?_
        · have := mt (ii_lt (by have := cn_lt w (n - 1 - i); omega) (by decide)).mpr (show ¬ ii (cn w (n - 1 - i)) < ii 32 from z)
          omega
        · exact (ii_le (by have := cn_lt w (n - 1 - i); omega) (by decide)).mp (show ii (cn w (n - 1 - i)) ≤ ii 126 from z2)
        · refine x_ic cd_i11_60 (z := ii 0) rfl ?_
          show am_to cd_t _ _ 11 61 _ _ _ _ _ _
          exact x_end cd_i11_61 rfl rfl rfl
theorem Int32_nn {n : Int32} (h : 0 ≤ n.toInt) : n = ii n.toNatClampNeg := by
  rw [← Int32.toInt_inj]
  have h1 : n.toInt < 2147483648 := by
    have := n.toInt_lt
    omega
  have h2 : (n.toNatClampNeg : Int) = n.toInt := by
    show ((n.toInt.toNat : Nat) : Int) = n.toInt
    omega
  rw [ii_toInt (by omega), h2]
theorem lt_c {n : Int32} {k : Nat} (hk : k < 2147483648) : n < ii k ↔ n.toInt < k := by rw [Int32.lt_iff_toInt_lt, ii_toInt hk]
theorem c_lt {n : Int32} {k : Nat} (hk : k < 2147483648) : ii k < n ↔ (k : Int) < n.toInt := by rw [Int32.lt_iff_toInt_lt, ii_toInt hk]
theorem le_c {n : Int32} {k : Nat} (hk : k < 2147483648) : n ≤ ii k ↔ n.toInt ≤ k := by rw [Int32.le_iff_toInt_le, ii_toInt hk]
theorem c_le {n : Int32} {k : Nat} (hk : k < 2147483648) : ii k ≤ n ↔ (k : Int) ≤ n.toInt := by rw [Int32.le_iff_toInt_le, ii_toInt hk]
def b2i (p : Bool) : Int32 := if p then 1 else 0
theorem x_append {σ : am_H} {txt : List Nat} {pos : Nat} {w n : Int32} (h : X_buf σ b txt pos) :
    ∃ σ' : am_H, am_to cd_t cs d 11 0 (am_ent 5 [.ref (b + 1), .int w, .int n]) [] σ top sl (.inl (some (.int (b2i (putM txt w n).isSome))), σ', top, sl) ∧ X_buf σ' b ((putM txt w n).getD txt) pos ∧ ∀ q, q ≠ b + 1 → q ≠ b + 2 → σ' q = σ q := by
  obtain ⟨hB, hlen, f, hL, hf⟩ := h
  by_cases hn : 1 ≤ n.toInt ∧ n.toInt ≤ 4 ∧ txt.length + n.toNatClampNeg ≤ 120
  · have e := Int32_nn (n := n) (by omega)
    have hcl : n.toNatClampNeg ≤ 4 := by
      show n.toInt.toNat ≤ 4
      omega
    obtain ⟨σ', r, h1, h2, h3⟩ := x_append_loop (cs := cs) (d := d) (b := b) (top := top) (sl := sl) (txt := txt) (pos := pos) (n := n.toNatClampNeg) (w := w) hcl hn.2.2 n.toNatClampNeg 0 f σ none (by omega) hB hL hf (fun j hj => absurd hj (Nat.not_lt_zero j))
    have hr : r = b2i (putM txt w n).isSome ∧ X_buf σ' b ((putM txt w n).getD txt) pos := by
      unfold putM
      rcases h3 with ⟨rfl, h4, h5⟩ | ⟨rfl, h4, h5⟩
      · rw [if_pos ⟨hn.1, hn.2.1, hn.2.2, h4⟩]
        exact ⟨rfl, h5⟩
      · rw [if_neg (fun z => h4 z.2.2.2)]
        exact ⟨rfl, h5⟩
    rw [← hr.1]
    refine ⟨σ', ?_, hr.2, h2⟩
    refine x_n cd_i11_0 rfl rfl ?_
    refine x_ic cd_i11_1 (z := ii 1) rfl ?_
    show am_to cd_t _ _ 11 2 _ _ _ _ _ _
    refine x_icmp_f cd_i11_2 (fun z => by have := (lt_c (by decide)).mp (show n < ii 1 from z); omega) ?_
    refine x_n cd_i11_5 rfl rfl ?_
    refine x_ic cd_i11_6 (z := ii 4) rfl ?_
    show am_to cd_t _ _ 11 7 _ _ _ _ _ _
    refine x_icmp_f cd_i11_7 (fun z => by have := (c_lt (by decide)).mp (show ii 4 < n from z); omega) ?_
    refine x_n cd_i11_10 rfl rfl ?_
    refine x_bi cd_i11_11 (z := ii 120) (by decide) ?_
    refine x_n cd_i11_13 rfl rfl ?_
    refine x_getf cd_i11_14 (by assumption) rfl rfl ?_
    show am_to cd_t _ _ 11 17 _ _ _ _ _ _
    refine x_isub cd_i11_17 (z := ii (120 - txt.length)) (ii_sub hlen) ?_
    refine x_icmp_t cd_i11_18 ((le_c (by omega)).mpr (by have : (n.toNatClampNeg : Int) = n.toInt := by (show ((n.toInt.toNat : Nat) : Int) = n.toInt; omega)
                                                         omega)) ?_
    refine x_ic cd_i11_23 (z := ii 0) rfl ?_
    refine x_n cd_i11_24 rfl rfl ?_
    try dsimp only [List.set]
    show am_to cd_t _ _ 11 25 _ _ _ _ _ _
    rw [← e] at h1
    exact h1
  · have hM : putM txt w n = none := by
      unfold putM
      exact if_neg (fun z => hn ⟨z.1, z.2.1, z.2.2.1⟩)
    rw [hM]
    refine ⟨σ, ?_, ⟨hB, hlen, f, hL, hf⟩, fun q _ _ => rfl⟩
    refine x_n cd_i11_0 rfl rfl ?_
    refine x_ic cd_i11_1 (z := ii 1) rfl ?_
    show am_to cd_t _ _ 11 2 _ _ _ _ _ _
    refine x_icmp cd_i11_2 (fun z => ?_) (fun z => ?_)
    · refine x_ic cd_i11_21 (z := ii 0) rfl ?_
      show am_to cd_t _ _ 11 22 _ _ _ _ _ _
      exact x_end cd_i11_22 rfl rfl rfl
    · have z1 := mt (lt_c (n := n) (k := 1) (by decide)).mpr z
      refine x_n cd_i11_5 rfl rfl ?_
      refine x_ic cd_i11_6 (z := ii 4) rfl ?_
      show am_to cd_t _ _ 11 7 _ _ _ _ _ _
      refine x_icmp cd_i11_7 (fun y => ?_) (fun y => ?_)
      · refine x_ic cd_i11_21 (z := ii 0) rfl ?_
        show am_to cd_t _ _ 11 22 _ _ _ _ _ _
        exact x_end cd_i11_22 rfl rfl rfl
      · have y1 := mt (c_lt (n := n) (k := 4) (by decide)).mpr y
        refine x_n cd_i11_10 rfl rfl ?_
        refine x_bi cd_i11_11 (z := ii 120) (by decide) ?_
        refine x_n cd_i11_13 rfl rfl ?_
        refine x_getf cd_i11_14 (by assumption) rfl rfl ?_
        show am_to cd_t _ _ 11 17 _ _ _ _ _ _
        refine x_isub cd_i11_17 (z := ii (120 - txt.length)) (ii_sub hlen) ?_
        refine x_icmp_f cd_i11_18 (fun x => hn ?_) ?_
        · have x1 := (le_c (n := n) (k := 120 - txt.length) (by omega)).mp x
          have : (n.toNatClampNeg : Int) = n.toInt := by
            show ((n.toInt.toNat : Nat) : Int) = n.toInt
            omega
          omega
        · refine x_ic cd_i11_21 (z := ii 0) rfl ?_
          show am_to cd_t _ _ 11 22 _ _ _ _ _ _
          exact x_end cd_i11_22 rfl rfl rfl
theorem x_put {σ : am_H} {txt : List Nat} {w n : Int32} {v : Value} (hd : 0 < d) (hx : σ b = some (.inr (.inl (0, [.ref (b + 1), .ref (b + 3), .ref (b + 6), .ref (b + 9), .ref (b + 10), .ref (b + 11), v])))) (h : X_buf σ b txt 0) :
    ∃ σ' : am_H, am_to cd_t cs d 10 0 (am_ent 3 [.ref b, .int w, .int n]) [] σ top sl (.inl (some (.int (b2i (putM txt w n).isSome))), σ', top, sl) ∧ X_buf σ' b ((putM txt w n).getD txt) 0 ∧ ∀ q, q ≠ b + 1 → q ≠ b + 2 → σ' q = σ q := by
  obtain ⟨σ', h1, h2, h3⟩ := x_append (cs := cs) (d := d - 1) (top := top) (sl := sl) (w := w) (n := n) h
  refine ⟨σ', ?_, h2, h3⟩
  refine x_n cd_i10_0 rfl rfl ?_
  refine x_getf cd_i10_1 (by assumption) rfl rfl ?_
  refine x_n cd_i10_4 rfl rfl ?_
  refine x_n cd_i10_5 rfl rfl ?_
  show am_to cd_t _ _ 10 6 _ _ _ _ _ _
  refine x_callv (as' := [.int w, .int n]) cd_i10_6 h.1 hd rfl rfl rfl rfl rfl rfl h1 ?_
  refine x_end cd_i10_9 rfl ?_ rfl
  unfold b2i
  cases (putM txt w n).isSome <;> rfl
end PX
