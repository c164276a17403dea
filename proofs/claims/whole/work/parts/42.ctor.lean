/-! what is made at the start -/
section CT
variable {cs : Nat → Value} {d : Nat} {σ : am_H} {top sl : Nat}
theorem c_phrase {p : Nat} (hd : 0 < d) (hp : σ p = some (.inr (.inl (8, [.null, .int 0, .int 0, .int 0])))) (hlt : p < top) :
    am_to cd_t cs d 8 0 (am_ent 1 [.ref p]) [] σ top sl (.inl none, am_up (am_up σ top (.inl (.char, 25, .inl fun _ => 0))) p (.inr (.inl (8, [.ref top, .int 0, .int 0, .int 0]))), top + 1, sl + 25) := by
  refine x_n cd_i8_0 rfl rfl ?_
  refine x_obj cd_i8_1 (by omega) rfl ?_
  refine x_n cd_i8_4 rfl rfl ?_
  refine x_bi cd_i8_5 (z := ii 25) (by decide) ?_
  refine x_newca cd_i8_7 (by decide) ?_
  refine x_putf cd_i8_9 ((am_up_ne σ _ (by omega)).trans hp) rfl rfl rfl ?_
  exact x_end cd_i8_12 rfl rfl rfl
theorem c_buffer {p : Nat} (hd : 0 < d) (hp : σ p = some (.inr (.inl (1, [.null, .int 0, .int 0])))) (hlt : p < top) :
    am_to cd_t cs d 2 0 (am_ent 1 [.ref p]) [] σ top sl (.inl none, am_up (am_up σ top (.inl (.char, 120, .inl fun _ => 0))) p (.inr (.inl (1, [.ref top, .int 0, .int 0]))), top + 1, sl + 120) := by
  refine x_n cd_i2_0 rfl rfl ?_
  refine x_obj cd_i2_1 (by omega) rfl ?_
  refine x_n cd_i2_4 rfl rfl ?_
  refine x_bi cd_i2_5 (z := ii 120) (by decide) ?_
  refine x_newca cd_i2_7 (by decide) ?_
  refine x_putf cd_i2_9 ((am_up_ne σ _ (by omega)).trans hp) rfl rfl rfl ?_
  exact x_end cd_i2_12 rfl rfl rfl
theorem c_scope {p : Nat} (hd : 0 < d) (hp : σ p = some (.inr (.inl (9, [.null, .null, .int 0])))) (hlt : p < top) :
    ∃ σ', am_to cd_t cs d 4 0 (am_ent 1 [.ref p]) [] σ top sl (.inl none, σ', top + 2, sl + 10) ∧ σ' p = some (.inr (.inl (9, [.ref top, .ref (top + 1), .int 0]))) ∧ σ' top = some (.inl (.int, 5, .inl fun _ => 0)) ∧ σ' (top + 1) = some (.inl (.int, 5, .inl fun _ => 0)) ∧ ∀ q, q ≠ p → q < top → σ' q = σ q := by
  refine ⟨am_up (am_up (am_up (am_up σ top (.inl (.int, 5, .inl fun _ => 0))) p (.inr (.inl (9, [.ref top, .null, .int 0])))) (top + 1) (.inl (.int, 5, .inl fun _ => 0))) p (.inr (.inl (9, [.ref top, .ref (top + 1), .int 0]))), ?_, ?_, ?_, ?_, ?_⟩
  · refine x_n cd_i4_0 rfl rfl ?_
    refine x_obj cd_i4_1 (by omega) rfl ?_
    refine x_n cd_i4_4 rfl rfl ?_
    refine x_ic cd_i4_5 (z := ii 5) rfl ?_
    refine x_newia cd_i4_6 (by decide) ?_
    refine x_putf cd_i4_8 ((am_up_ne σ _ (by omega)).trans hp) rfl rfl rfl ?_
    refine x_n cd_i4_11 rfl rfl ?_
    refine x_ic cd_i4_12 (z := ii 5) rfl ?_
    refine x_newia cd_i4_13 (by decide) ?_
    refine x_putf cd_i4_15 ((am_up_ne _ _ (by omega)).trans (am_up_self _ _ _)) rfl rfl rfl ?_
    exact x_end cd_i4_18 rfl rfl rfl
  · exact am_up_self _ _ _
  · rw [am_up_ne _ _ (by omega), am_up_ne _ _ (by omega), am_up_ne _ _ (by omega), am_up_self]
  · rw [am_up_ne _ _ (by omega), am_up_self]
  · intro q h1 h2
    rw [am_up_ne _ _ h1, am_up_ne _ _ (by omega), am_up_ne _ _ h1, am_up_ne _ _ (by omega)]
/-- a type's own bit -/
def c_bit (i : Nat) : Int32 := ii 1 <<< (ii i &&& 31)
theorem c_cat_loop {C A F : Nat} : ∀ (n t : Nat) (f : Nat → Int32) (σ : am_H), t + n = 13 → σ C = some (.inr (.inl (2, [.ref A, .ref F, .int (-1)]))) → σ F = some (.inl (.int, 13, .inl f)) → C ≠ F → (∀ i, i < t → f i = c_bit i) →
    ∃ (f' : Nat → Int32) (σ' : am_H), (∀ i, i < 13 → f' i = c_bit i) ∧ σ' F = some (.inl (.int, 13, .inl f')) ∧ (∀ q, q ≠ F → σ' q = σ q) ∧ ∀ res, am_to cd_t cs d 3 49 [some (.ref C), some (.int (ii 13))] [] σ' top sl res → am_to cd_t cs d 3 28 [some (.ref C), some (.int (ii t))] [] σ top sl res
  | 0, t, f, σ, ht, hC, hF, hne, hf => by
    obtain rfl : t = 13 := by omega
    refine ⟨f, σ, hf, hF, fun q _ => rfl, fun res h => ?_⟩
    refine x_n cd_i3_28 rfl rfl ?_
    refine x_bi cd_i3_29 (z := ii 13) (by decide) ?_
    exact x_icmp_t cd_i3_31 (by show ii 13 ≤ ii 13; decide) h
  | n + 1, t, f, σ, ht, hC, hF, hne, hf => by
    obtain ⟨f', σ', h1, h2, h3, h4⟩ := c_cat_loop n (t + 1) (upd f t (c_bit t)) (am_up σ F (.inl (.int, 13, .inl (upd f t (c_bit t))))) (by omega) ((am_up_ne _ _ hne).trans hC) (am_up_self _ _ _) hne (fun i hi => by
      unfold upd
      by_cases hit : i = t
      · rw [if_pos hit, hit]
      · rw [if_neg hit]
        exact hf i (by omega))
    refine ⟨f', σ', h1, h2, fun q hq => (h3 q hq).trans (am_up_ne _ _ hq), fun res h => ?_⟩
    refine x_n cd_i3_28 rfl rfl ?_
    refine x_bi cd_i3_29 (z := ii 13) (by decide) ?_
    refine x_icmp_f cd_i3_31 (fun z => by have := (ii_le (by omega) (by omega)).mp (show ii 13 ≤ ii t from z); omega) ?_
    refine x_n cd_i3_34 rfl rfl ?_
    refine x_getf cd_i3_35 (by assumption) rfl rfl ?_
    refine x_n cd_i3_38 rfl rfl ?_
    refine x_ic cd_i3_39 (z := ii 1) rfl ?_
    refine x_n cd_i3_40 rfl rfl ?_
    refine x_ishl cd_i3_41 rfl ?_
    refine x_iastore cd_i3_42 hF (by omega) (by decide) ?_
    refine x_iinc cd_i3_43 rfl (z := ii (t + 1)) (ii_add t 1) rfl ?_
    refine x_n cd_i3_46 rfl rfl ?_
    exact h4 res h
theorem c_catalog {C : Nat} (hd : 0 < d) (hp : σ C = some (.inr (.inl (2, [.null, .null, .int 0])))) (hlt : C < top) :
    ∃ (σ' : am_H) (f : Nat → Int32), am_to cd_t cs d 3 0 (am_ent 2 [.ref C]) [] σ top sl (.inl none, σ', top + 2, sl + 23) ∧ σ' C = some (.inr (.inl (2, [.ref top, .ref (top + 1), .int (-1)]))) ∧ σ' top = some (.inl (.object "ChainDesk$Declaration", 10, .inr (.inr (.inr (.inr fun _ => none))))) ∧ σ' (top + 1) = some (.inl (.int, 13, .inl f)) ∧ f 0 = 3 ∧ (∀ i, 0 < i → i < 13 → f i = c_bit i) ∧ ∀ q, q ≠ C → q < top → σ' q = σ q := by
  obtain ⟨f', σ', h1, h2, h3, h4⟩ := c_cat_loop (cs := cs) (d := d) (top := top + 1 + 1) (sl := sl + 10 + 13) (C := C) (A := top) (F := top + 1) 13 0 (fun _ => 0) (am_up (am_up (am_up (am_up (am_up σ top (.inl (.object "ChainDesk$Declaration", 10, .inr (.inr (.inr (.inr fun _ => none)))))) C (.inr (.inl (2, [.ref top, .null, .int 0])))) (top + 1) (.inl (.int, 13, .inl fun _ => 0))) C (.inr (.inl (2, [.ref top, .ref (top + 1), .int 0])))) C (.inr (.inl (2, [.ref top, .ref (top + 1), .int (-1)])))) rfl (am_up_self _ _ _) (by rw [am_up_ne _ _ (by omega), am_up_ne _ _ (by omega), am_up_self]) (by omega) (fun i hi => absurd hi (Nat.not_lt_zero i))
  refine ⟨am_up σ' (top + 1) (.inl (.int, 13, .inl (upd f' 0 3))), upd f' 0 3, ?_, ?_, ?_, am_up_self _ _ _, rfl, fun i h0 hi => ?_, fun q hq hlt2 => ?_⟩
  · refine x_n cd_i3_0 rfl rfl ?_
    refine x_obj cd_i3_1 (by omega) rfl ?_
    refine x_n cd_i3_4 rfl rfl ?_
    refine x_bi cd_i3_5 (z := ii 10) (by decide) ?_
    refine x_newaa cd_i3_7 (by decide) ?_
    refine x_putf cd_i3_10 ((am_up_ne σ _ (by omega)).trans hp) rfl rfl rfl ?_
    refine x_n cd_i3_13 rfl rfl ?_
    refine x_bi cd_i3_14 (z := ii 13) (by decide) ?_
    refine x_newia cd_i3_16 (by decide) ?_
    refine x_putf cd_i3_18 ((am_up_ne _ _ (by omega)).trans (am_up_self _ _ _)) rfl rfl rfl ?_
    refine x_n cd_i3_21 rfl rfl ?_
    refine x_ic cd_i3_22 (z := (-1)) rfl ?_
    refine x_putf cd_i3_23 (am_up_self _ _ _) rfl rfl rfl ?_
    refine x_ic cd_i3_26 (z := ii 0) rfl ?_
    refine x_n cd_i3_27 rfl rfl ?_
    dsimp only [List.set]
    refine h4 _ ?_
    have hC' : σ' C = some (.inr (.inl (2, [.ref top, .ref (top + 1), .int (-1)]))) := (h3 C (by omega)).trans (am_up_self _ _ _)
    refine x_n cd_i3_49 rfl rfl ?_
    refine x_getf cd_i3_50 (by assumption) rfl rfl ?_
    refine x_ic cd_i3_53 (z := ii 0) rfl ?_
    refine x_n cd_i3_54 rfl rfl ?_
    refine x_iaload cd_i3_55 (i := 0) h2 (by decide) (by decide) ?_
    refine x_ic cd_i3_56 (z := ii 2) rfl ?_
    refine x_ior cd_i3_57 (z := 3) (by rw [h1 0 (by decide)]; decide) ?_
    refine x_iastore cd_i3_58 (i := 0) h2 (by decide) (by decide) ?_
    exact x_end cd_i3_59 rfl rfl rfl
  · rw [am_up_ne _ _ (by omega), h3 C (by omega), am_up_self]
  · rw [am_up_ne _ _ (by omega), h3 top (by omega), am_up_ne _ _ (by omega), am_up_ne _ _ (by omega), am_up_ne _ _ (by omega), am_up_ne _ _ (by omega), am_up_self]
  · unfold upd
    rw [if_neg (by omega)]
    exact h1 i hi
  · rw [am_up_ne _ _ (by omega), h3 q (by omega), am_up_ne _ _ hq, am_up_ne _ _ hq, am_up_ne _ _ (by omega), am_up_ne _ _ hq, am_up_ne _ _ (by omega)]
/-- a shelf's rows, made one after another -/
theorem c_shelf_loop {S A : Nat} (hd : 1 < d) : ∀ (n t : Nat) (g : Nat → Option Nat) (σ : am_H) (top sl : Nat), t + n = 8 → σ S = some (.inr (.inl (10, [.ref A, .int 0]))) → σ A = some (.inl (.object "ChainDesk$Phrase", 8, .inr (.inr (.inr (.inr g))))) → S < top → A < top → S ≠ A →
    ∃ (g' : Nat → Option Nat) (σ' : am_H), (∀ i, i < t → g' i = g i) ∧ (∀ i, t ≤ i → i < 8 → g' i = some (top + 2 * (i - t))) ∧ σ' A = some (.inl (.object "ChainDesk$Phrase", 8, .inr (.inr (.inr (.inr g'))))) ∧
      (∀ i, t ≤ i → i < 8 → σ' (top + 2 * (i - t)) = some (.inr (.inl (8, [.ref (top + 2 * (i - t) + 1), .int 0, .int 0, .int 0]))) ∧ σ' (top + 2 * (i - t) + 1) = some (.inl (.char, 25, .inl fun _ => 0))) ∧ (∀ q, q ≠ A → q < top → σ' q = σ q) ∧
      ∀ res, am_to cd_t cs d 9 43 [some (.ref S), some (.int (ii 8))] [] σ' (top + 2 * n) (sl + 29 * n) res → am_to cd_t cs d 9 15 [some (.ref S), some (.int (ii t))] [] σ top sl res
  | 0, t, g, σ, top, sl, ht, hS, hA, h1, h2, hne => by
    obtain rfl : t = 8 := by omega
    refine ⟨g, σ, fun _ _ => rfl, fun i h3 h4 => by omega, hA, fun i h3 h4 => by omega, fun _ _ _ => rfl, fun res h => ?_⟩
    refine x_n cd_i9_15 rfl rfl ?_
    refine x_n cd_i9_16 rfl rfl ?_
    refine x_getf cd_i9_17 (by assumption) rfl rfl ?_
    refine x_len cd_i9_20 hA ?_
    exact x_icmp_t cd_i9_21 (by show ii 8 ≤ ii 8; decide) h
  | n + 1, t, g, σ, top, sl, ht, hS, hA, h1, h2, hne => by
    obtain ⟨g', σ', k1, k2, k3, k4, k5, k6⟩ := c_shelf_loop hd n (t + 1) (va_up g t (some top)) (am_up (am_up (am_up (am_up σ top (.inr (.inl (8, [.null, .int 0, .int 0, .int 0])))) (top + 1) (.inl (.char, 25, .inl fun _ => 0))) top (.inr (.inl (8, [.ref (top + 1), .int 0, .int 0, .int 0])))) A (.inl (.object "ChainDesk$Phrase", 8, .inr (.inr (.inr (.inr (va_up g t (some top)))))))) (top + 2) (sl + 29) (by omega)
      (by rw [am_up_ne _ _ (by omega), am_up_ne _ _ (by omega), am_up_ne _ _ (by omega), am_up_ne _ _ (by omega)]; exact hS) (am_up_self _ _ _) (by omega) (by omega) hne
    refine ⟨g', σ', fun i hi => ?_, fun i h3 h4 => ?_, k3, fun i h3 h4 => ?_, fun q hq hlt => ?_, fun res h => ?_⟩
    · rw [k1 i (by omega)]
      unfold va_up
      rw [if_neg (by omega)]
    · by_cases hit : i = t
      · rw [k1 i (by omega)]
        unfold va_up
        rw [if_pos hit, hit, Nat.sub_self]
        rfl
      · rw [k2 i (by omega) h4]
        congr 1
        omega
    · by_cases hit : i = t
      · subst hit
        rw [Nat.sub_self, Nat.mul_zero, Nat.add_zero, k5 top (by omega) (by omega), k5 (top + 1) (by omega) (by omega), am_up_ne _ _ (by omega), am_up_self, am_up_ne _ _ (by omega), am_up_ne _ _ (by omega), am_up_self]
        exact ⟨rfl, rfl⟩
      · have e : top + 2 * (i - t) = top + 2 + 2 * (i - (t + 1)) := by omega
        rw [e]
        exact k4 i (by omega) h4
    · rw [k5 q hq (by omega), am_up_ne _ _ hq, am_up_ne _ _ (by omega), am_up_ne _ _ (by omega), am_up_ne _ _ (by omega)]
    · refine x_n cd_i9_15 rfl rfl ?_
      refine x_n cd_i9_16 rfl rfl ?_
      refine x_getf cd_i9_17 (by assumption) rfl rfl ?_
      refine x_len cd_i9_20 hA ?_
      refine x_icmp_f cd_i9_21 (fun z => by have := (ii_le (by omega) (by omega)).mp (show ii 8 ≤ ii t from z); omega) ?_
      refine x_n cd_i9_24 rfl rfl ?_
      refine x_getf cd_i9_25 (by assumption) rfl rfl ?_
      refine x_n cd_i9_28 rfl rfl ?_
      refine x_new cd_i9_29 rfl ?_
      refine x_n cd_i9_32 rfl rfl ?_
      refine x_calli (as' := []) (r := none) cd_i9_33 (by omega) rfl rfl rfl rfl rfl rfl (c_phrase (by omega) (am_up_self _ _ _) (by omega)) ?_
      refine x_aastore cd_i9_36 (by rw [am_up_ne _ _ (by omega), am_up_ne _ _ (by omega), am_up_ne _ _ (by omega)]; exact hA) (am_up_self _ _ _) rfl (by omega) (by decide) ?_
      refine x_iinc cd_i9_37 rfl (z := ii (t + 1)) (ii_add t 1) rfl ?_
      refine x_n cd_i9_40 rfl rfl ?_
      refine k6 res ?_
      rw [show top + 2 + 2 * n = top + 2 * (n + 1) by omega, show sl + 29 + 29 * n = sl + 29 * (n + 1) by omega]
      exact h
/-- an empty shelf at S: its rows' array behind it, then each row with its letters -/
def sh0 (σ : am_H) (S A : Nat) : Prop := σ S = some (.inr (.inl (10, [.ref A, .int 0]))) ∧ ∃ g : Nat → Option Nat, (∀ i, i < 8 → g i = some (A + 1 + 2 * i)) ∧ σ A = some (.inl (.object "ChainDesk$Phrase", 8, .inr (.inr (.inr (.inr g))))) ∧
  ∀ i, i < 8 → σ (A + 1 + 2 * i) = some (.inr (.inl (8, [.ref (A + 1 + 2 * i + 1), .int 0, .int 0, .int 0]))) ∧ σ (A + 1 + 2 * i + 1) = some (.inl (.char, 25, .inl fun _ => 0))
theorem sh0.kept {σ σ' : am_H} {S A : Nat} (h : sh0 σ S A) (hS : σ' S = σ S) (hq : ∀ q, A ≤ q → q < A + 17 → σ' q = σ q) : sh0 σ' S A := by
  obtain ⟨h1, g, h2, h3, h4⟩ := h
  exact ⟨hS.trans h1, g, h2, (hq A (Nat.le_refl _) (by omega)).trans h3, fun i hi => ⟨(hq _ (by omega) (by omega)).trans (h4 i hi).1, (hq _ (by omega) (by omega)).trans (h4 i hi).2⟩⟩
theorem c_shelf {S : Nat} (hd : 1 < d) (hp : σ S = some (.inr (.inl (10, [.null, .int 0])))) (hlt : S < top) :
    ∃ σ' : am_H, am_to cd_t cs d 9 0 (am_ent 2 [.ref S]) [] σ top sl (.inl none, σ', top + 17, sl + 240) ∧ sh0 σ' S top ∧ ∀ q, q ≠ S → q < top → σ' q = σ q := by
  obtain ⟨g', σ', k1, k2, k3, k4, k5, k6⟩ := c_shelf_loop (cs := cs) (S := S) (A := top) hd 8 0 (fun _ => none) (am_up (am_up σ top (.inl (.object "ChainDesk$Phrase", 8, .inr (.inr (.inr (.inr fun _ => none)))))) S (.inr (.inl (10, [.ref top, .int 0])))) (top + 1) (sl + 8) rfl (am_up_self _ _ _) (by rw [am_up_ne _ _ (by omega), am_up_self]) (by omega) (by omega) (by omega)
  refine ⟨σ', ?_, ⟨?_, g', fun i hi => k2 i (by omega) hi, k3, fun i hi => k4 i (by omega) hi⟩, fun q hq hlt2 => ?_⟩
  · refine x_n cd_i9_0 rfl rfl ?_
    refine x_obj cd_i9_1 (by omega) rfl ?_
    refine x_n cd_i9_4 rfl rfl ?_
    refine x_bi cd_i9_5 (z := ii 8) (by decide) ?_
    refine x_newaa cd_i9_7 (by decide) ?_
    refine x_putf cd_i9_10 ((am_up_ne σ _ (by omega)).trans hp) rfl rfl rfl ?_
    refine x_ic cd_i9_13 (z := ii 0) rfl ?_
    refine x_n cd_i9_14 rfl rfl ?_
    dsimp only [List.set]
    refine k6 _ ?_
    exact x_end cd_i9_43 rfl rfl rfl
  · rw [k5 S (by omega) (by omega), am_up_self]
  · rw [k5 q (by omega) (by omega), am_up_ne _ _ hq, am_up_ne _ _ (by omega)]
/-- the shelves, made one after another -/
theorem c_comp_loop {K A : Nat} {fs : List Value} (hd : 2 < d) (hfs : fs[2]? = some (.ref A)) {v1 v2 : Option Value} : ∀ (n t : Nat) (g : Nat → Option Nat) (σ : am_H) (top sl : Nat), t + n = 4 → σ K = some (.inr (.inl (3, fs))) → σ A = some (.inl (.object "ChainDesk$Shelf", 4, .inr (.inr (.inr (.inr g))))) → K < top → A < top → K ≠ A →
    ∃ (g' : Nat → Option Nat) (σ' : am_H), (∀ i, i < t → g' i = g i) ∧ (∀ i, t ≤ i → i < 4 → g' i = some (top + 18 * (i - t))) ∧ σ' A = some (.inl (.object "ChainDesk$Shelf", 4, .inr (.inr (.inr (.inr g'))))) ∧
      (∀ i, t ≤ i → i < 4 → sh0 σ' (top + 18 * (i - t)) (top + 18 * (i - t) + 1)) ∧ (∀ q, q ≠ A → q < top → σ' q = σ q) ∧
      ∀ res, am_to cd_t cs d 7 72 [some (.ref K), v1, v2, some (.int (ii 4))] [] σ' (top + 18 * n) (sl + 242 * n) res → am_to cd_t cs d 7 44 [some (.ref K), v1, v2, some (.int (ii t))] [] σ top sl res
  | 0, t, g, σ, top, sl, ht, hS, hA, h1, h2, hne => by
    obtain rfl : t = 4 := by omega
    refine ⟨g, σ, fun _ _ => rfl, fun i h3 h4 => by omega, hA, fun i h3 h4 => by omega, fun _ _ _ => rfl, fun res h => ?_⟩
    refine x_n cd_i7_44 rfl rfl ?_
    refine x_n cd_i7_45 rfl rfl ?_
    refine x_getf cd_i7_46 hS hfs rfl ?_
    refine x_len cd_i7_49 hA ?_
    exact x_icmp_t cd_i7_50 (by show ii 4 ≤ ii 4; decide) h
  | n + 1, t, g, σ, top, sl, ht, hS, hA, h1, h2, hne => by
    obtain ⟨σ1, c1, c2, c3⟩ := c_shelf (cs := cs) (d := d - 1) (σ := am_up σ top (.inr (.inl (10, [.null, .int 0])))) (top := top + 1) (sl := sl + 2) (S := top) (by omega) (am_up_self _ _ _) (by omega)
    have hA1 : σ1 A = some (.inl (.object "ChainDesk$Shelf", 4, .inr (.inr (.inr (.inr g))))) := by rw [c3 A (by omega) (by omega), am_up_ne _ _ (by omega)]; exact hA
    obtain ⟨g', σ', k1, k2, k3, k4, k5, k6⟩ := c_comp_loop hd hfs (v1 := v1) (v2 := v2) n (t + 1) (va_up g t (some top)) (am_up σ1 A (.inl (.object "ChainDesk$Shelf", 4, .inr (.inr (.inr (.inr (va_up g t (some top)))))))) (top + 18) (sl + 242) (by omega)
      (by rw [am_up_ne _ _ (by omega), c3 K (by omega) (by omega), am_up_ne _ _ (by omega)]; exact hS) (am_up_self _ _ _) (by omega) (by omega) hne
    refine ⟨g', σ', fun i hi => ?_, fun i h3 h4 => ?_, k3, fun i h3 h4 => ?_, fun q hq hlt => ?_, fun res h => ?_⟩
    · rw [k1 i (by omega)]
      unfold va_up
      rw [if_neg (by omega)]
    · by_cases hit : i = t
      · rw [k1 i (by omega)]
        unfold va_up
        rw [if_pos hit, hit, Nat.sub_self]
        rfl
      · rw [k2 i (by omega) h4]
        congr 1
        omega
    · by_cases hit : i = t
      · subst hit
        rw [Nat.sub_self, Nat.mul_zero, Nat.add_zero]
        exact c2.kept (by rw [k5 top (by omega) (by omega), am_up_ne _ _ (by omega)]) (fun q h5 h6 => by rw [k5 q (by omega) (by omega), am_up_ne _ _ (by omega)])
      · have e : top + 18 * (i - t) = top + 18 + 18 * (i - (t + 1)) := by omega
        rw [e]
        exact k4 i (by omega) h4
    · rw [k5 q hq (by omega), am_up_ne _ _ hq, c3 q (by omega) (by omega), am_up_ne _ _ (by omega)]
    · refine x_n cd_i7_44 rfl rfl ?_
      refine x_n cd_i7_45 rfl rfl ?_
      refine x_getf cd_i7_46 hS hfs rfl ?_
      refine x_len cd_i7_49 hA ?_
      refine x_icmp_f cd_i7_50 (fun z => by have := (ii_le (by omega) (by omega)).mp (show ii 4 ≤ ii t from z); omega) ?_
      refine x_n cd_i7_53 rfl rfl ?_
      refine x_getf cd_i7_54 hS hfs rfl ?_
      refine x_n cd_i7_57 rfl rfl ?_
      refine x_new cd_i7_58 rfl ?_
      refine x_n cd_i7_61 rfl rfl ?_
      refine x_calli (as' := []) (r := none) cd_i7_62 (by omega) rfl rfl rfl rfl rfl rfl c1 ?_
      refine x_aastore cd_i7_65 hA1 c2.1 rfl (by omega) (by decide) ?_
      refine x_iinc cd_i7_66 rfl (z := ii (t + 1)) (ii_add t 1) rfl ?_
      refine x_n cd_i7_69 rfl rfl ?_
      refine k6 res ?_
      rw [show top + 18 + 18 * n = top + 18 * (n + 1) by omega, show sl + 242 + 242 * n = sl + 242 * (n + 1) by omega]
      exact h
theorem c_comp {K C S : Nat} (hd : 2 < d) (hp : σ K = some (.inr (.inl (3, [.null, .null, .null, .null, .null, .null, .int 0])))) (hlt : K < top) :
    ∃ (σ' : am_H) (g : Nat → Option Nat), am_to cd_t cs d 7 0 (am_ent 4 [.ref K, .ref C, .ref S]) [] σ top sl (.inl none, σ', top + 76, sl + 1011) ∧ σ' K = some (.inr (.inl (3, [.ref C, .ref S, .ref top, .ref (top + 1), .ref (top + 2), .ref (top + 4), .int 0]))) ∧
      σ' top = some (.inl (.object "ChainDesk$Shelf", 4, .inr (.inr (.inr (.inr g))))) ∧ (∀ i, i < 4 → g i = some (top + 4 + 18 * i)) ∧ (∀ i, i < 4 → sh0 σ' (top + 4 + 18 * i) (top + 4 + 18 * i + 1)) ∧ σ' (top + 1) = some (.inl (.object "ChainDesk$Phrase", 10, .inr (.inr (.inr (.inr fun _ => none))))) ∧
      σ' (top + 2) = some (.inr (.inl (8, [.ref (top + 3), .int 0, .int 0, .int 0]))) ∧ σ' (top + 3) = some (.inl (.char, 25, .inl fun _ => 0)) ∧ ∀ q, q ≠ K → q < top → σ' q = σ q := by
  let s1 := am_up (am_up σ top (.inl (.object "ChainDesk$Shelf", 4, .inr (.inr (.inr (.inr fun _ => none)))))) K (.inr (.inl (3, [.null, .null, .ref top, .null, .null, .null, .int 0])))
  let s2 := am_up (am_up s1 (top + 1) (.inl (.object "ChainDesk$Phrase", 10, .inr (.inr (.inr (.inr fun _ => none)))))) K (.inr (.inl (3, [.null, .null, .ref top, .ref (top + 1), .null, .null, .int 0])))
  let s3 := am_up (am_up (am_up s2 (top + 2) (.inr (.inl (8, [.null, .int 0, .int 0, .int 0])))) (top + 3) (.inl (.char, 25, .inl fun _ => 0))) (top + 2) (.inr (.inl (8, [.ref (top + 3), .int 0, .int 0, .int 0])))
  let s4 := am_up s3 K (.inr (.inl (3, [.null, .null, .ref top, .ref (top + 1), .ref (top + 2), .null, .int 0])))
  let s5 := am_up s4 K (.inr (.inl (3, [.ref C, .null, .ref top, .ref (top + 1), .ref (top + 2), .null, .int 0])))
  let s6 := am_up s5 K (.inr (.inl (3, [.ref C, .ref S, .ref top, .ref (top + 1), .ref (top + 2), .null, .int 0])))
  have e0 : s6 top = some (.inl (.object "ChainDesk$Shelf", 4, .inr (.inr (.inr (.inr fun _ => none))))) := by
    simp only [s6, s5, s4, s3, s2, s1]
    rw [am_up_ne _ _ (by omega), am_up_ne _ _ (by omega), am_up_ne _ _ (by omega), am_up_ne _ _ (by omega), am_up_ne _ _ (by omega), am_up_ne _ _ (by omega), am_up_ne _ _ (by omega), am_up_ne _ _ (by omega), am_up_ne _ _ (by omega), am_up_self]
  obtain ⟨g', σ', k1, k2, k3, k4, k5, k6⟩ := c_comp_loop (cs := cs) (K := K) (A := top) (fs := [.ref C, .ref S, .ref top, .ref (top + 1), .ref (top + 2), .null, .int 0]) hd rfl (v1 := some (.ref C)) (v2 := some (.ref S)) 4 0 (fun _ => none) s6 (top + 4) (sl + 43) rfl (am_up_self _ _ _) e0 (by omega) (by omega) (by omega)
  have hK' : σ' K = some (.inr (.inl (3, [.ref C, .ref S, .ref top, .ref (top + 1), .ref (top + 2), .null, .int 0]))) := (k5 K (by omega) (by omega)).trans (am_up_self _ _ _)
  refine ⟨am_up σ' K (.inr (.inl (3, [.ref C, .ref S, .ref top, .ref (top + 1), .ref (top + 2), .ref (top + 4), .int 0]))), g', ?_, am_up_self _ _ _, (am_up_ne _ _ (by omega)).trans k3, fun i hi => k2 i (by omega) hi, fun i hi => ?_, ?_, ?_, ?_, fun q hq hlt2 => ?_⟩
  · refine x_n cd_i7_0 rfl rfl ?_
    refine x_obj cd_i7_1 (by omega) rfl ?_
    refine x_n cd_i7_4 rfl rfl ?_
    refine x_ic cd_i7_5 (z := ii 4) rfl ?_
    refine x_newaa cd_i7_6 (by decide) ?_
    refine x_putf cd_i7_9 ((am_up_ne σ _ (by omega)).trans hp) rfl rfl rfl ?_
    refine x_n cd_i7_12 rfl rfl ?_
    refine x_bi cd_i7_13 (z := ii 10) (by decide) ?_
    refine x_newaa cd_i7_15 (by decide) ?_
    refine x_putf cd_i7_18 ((am_up_ne _ _ (by omega)).trans (am_up_self _ _ _)) rfl rfl rfl ?_
    refine x_n cd_i7_21 rfl rfl ?_
    refine x_new cd_i7_22 rfl ?_
    refine x_n cd_i7_25 rfl rfl ?_
    refine x_calli (as' := []) (r := none) cd_i7_26 (by omega) rfl rfl rfl rfl rfl rfl (c_phrase (by omega) (am_up_self _ _ _) (by omega)) ?_
    refine x_putf cd_i7_29 (by rw [am_up_ne _ _ (by omega), am_up_ne _ _ (by omega), am_up_ne _ _ (by omega)]; exact am_up_self _ _ _) rfl rfl rfl ?_
    refine x_n cd_i7_32 rfl rfl ?_
    refine x_n cd_i7_33 rfl rfl ?_
    refine x_putf cd_i7_34 (am_up_self _ _ _) rfl rfl rfl ?_
    refine x_n cd_i7_37 rfl rfl ?_
    refine x_n cd_i7_38 rfl rfl ?_
    refine x_putf cd_i7_39 (am_up_self _ _ _) rfl rfl rfl ?_
    refine x_ic cd_i7_42 (z := ii 0) rfl ?_
    refine x_n cd_i7_43 rfl rfl ?_
    dsimp only [List.set]
    refine k6 _ ?_
    refine x_n cd_i7_72 rfl rfl ?_
    refine x_n cd_i7_73 rfl rfl ?_
    refine x_getf cd_i7_74 (by assumption) rfl rfl ?_
    refine x_ic cd_i7_77 (z := ii 0) rfl ?_
    refine x_aaload cd_i7_78 (i := 0) k3 (by decide) (by decide) ?_
    rw [k2 0 (by omega) (by omega)]
    refine x_putf cd_i7_79 hK' rfl rfl rfl ?_
    exact x_end cd_i7_82 rfl rfl rfl
  · exact (k4 i (by omega) hi).kept (am_up_ne _ _ (by omega)) (fun q h1 h2 => am_up_ne _ _ (by omega))
  · rw [am_up_ne _ _ (by omega), k5 _ (by omega) (by omega)]
    simp only [s6, s5, s4, s3, s2, s1]
    rw [am_up_ne _ _ (by omega), am_up_ne _ _ (by omega), am_up_ne _ _ (by omega), am_up_ne _ _ (by omega), am_up_ne _ _ (by omega), am_up_ne _ _ (by omega), am_up_ne _ _ (by omega), am_up_self]
  · rw [am_up_ne _ _ (by omega), k5 _ (by omega) (by omega)]
    simp only [s6, s5, s4, s3, s2, s1]
    rw [am_up_ne _ _ (by omega), am_up_ne _ _ (by omega), am_up_ne _ _ (by omega), am_up_self]
  · rw [am_up_ne _ _ (by omega), k5 _ (by omega) (by omega)]
    simp only [s6, s5, s4, s3, s2, s1]
    rw [am_up_ne _ _ (by omega), am_up_ne _ _ (by omega), am_up_ne _ _ (by omega), am_up_ne _ _ (by omega), am_up_self]
  · rw [am_up_ne _ _ hq, k5 q (by omega) (by omega)]
    simp only [s6, s5, s4, s3, s2, s1]
    rw [am_up_ne _ _ hq, am_up_ne _ _ hq, am_up_ne _ _ hq, am_up_ne _ _ (by omega), am_up_ne _ _ (by omega), am_up_ne _ _ (by omega), am_up_ne _ _ hq, am_up_ne _ _ (by omega), am_up_ne _ _ hq, am_up_ne _ _ (by omega)]
end CT
