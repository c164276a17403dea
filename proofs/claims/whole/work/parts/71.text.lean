/-! constant texts; reading a text -/
section ST
variable {cs : Nat → Value} {d b top sl : Nat} {σ : am_H} {y pc u k : Nat} {lv : am_V} {st : List Value} {res : am_R}
theorem x_ial {a n i : Nat} {f : Nat → Int32} {z : Int32} (hI : cd_I y pc = some (.iaload, u, k)) (ho : σ a = some (.inl (.int, n, .inl f))) (hi : i < n) (hn : n ≤ 2147483648) (hv : f i = z) (h : am_to cd_t cs d y (pc + 1) lv (.int z :: st) σ top sl res) : am_to cd_t cs d y pc lv (.int (ii i) :: .ref a :: st) σ top sl res := x_iaload hI ho hi hn (by rw [hv]; exact h)
theorem x_iald {a n i : Nat} {f : Nat → Int32} {z : Int32} (hI : cd_I y pc = some (.iaload, u, k)) (ho : σ a = some (.inl (.int, n, .inl f))) (hi : i < n) (hn : n ≤ 2147483648) (hv : f i = z) (h : am_to cd_t cs d y (pc + 1) lv (.int z :: st) σ top sl res) : am_to cd_t cs d y pc lv (.int (ii i) :: .ref a :: st) σ top sl res := x_iaload hI ho hi hn (by rw [hv]; exact h)
theorem x_cald {a n i : Nat} {f : Nat → Int32} {z : Int32} (hI : cd_I y pc = some (.caload, u, k)) (ho : σ a = some (.inl (.char, n, .inl f))) (hi : i < n) (hn : n ≤ 2147483648) (hv : f i = z) (h : am_to cd_t cs d y (pc + 1) lv (.int z :: st) σ top sl res) : am_to cd_t cs d y pc lv (.int (ii i) :: .ref a :: st) σ top sl res := x_caload hI ho hi hn (by rw [hv]; exact h)
theorem x_bald {a n i : Nat} {f : Nat → Int32} {z : Int32} (hI : cd_I y pc = some (.baload, u, k)) (ho : σ a = some (.inl (.boolean, n, .inl f))) (hi : i < n) (hn : n ≤ 2147483648) (hv : f i = z) (h : am_to cd_t cs d y (pc + 1) lv (.int z :: st) σ top sl res) : am_to cd_t cs d y pc lv (.int (ii i) :: .ref a :: st) σ top sl res := x_baload hI ho hi hn (by rw [hv]; exact h)
theorem x_getK0 {idx a v : Nat} {g : Nat → Int32} (hI : cd_I y pc = some (.getfield idx, 50, 0)) (ho : σ a = some (.inr (.inr (1, v, g)))) (h : am_to cd_t cs d y (pc + 3) lv (.ref v :: st) σ top sl res) : am_to cd_t cs d y pc lv (.ref a :: st) σ top sl res := by
  refine x_n hI rfl ?_ h
  dsimp only [am_step, am_a1]
  rw [ho]
  rfl
theorem x_getK1 {idx a v : Nat} {g : Nat → Int32} (hI : cd_I y pc = some (.getfield idx, 50, 1)) (ho : σ a = some (.inr (.inr (1, v, g)))) (h : am_to cd_t cs d y (pc + 3) lv (.int 0 :: st) σ top sl res) : am_to cd_t cs d y pc lv (.ref a :: st) σ top sl res := by
  refine x_n hI rfl ?_ h
  dsimp only [am_step, am_a1]
  rw [ho]
  rfl
theorem x_lenK {a n : Nat} {g : Nat → Int32} (hI : cd_I y pc = some (.arraylength, u, k)) (ho : σ a = some (.inr (.inr (2, n, g)))) (h : am_to cd_t cs d y (pc + 1) lv (.int (ii n) :: st) σ top sl res) : am_to cd_t cs d y pc lv (.ref a :: st) σ top sl res := by
  refine x_n hI rfl ?_ h
  dsimp only [am_step, am_a1]
  rw [ho]
  rfl
/-- a call on a constant text -/
theorem x_callk {idx b v : Nat} {g : Nat → Int32} {as' rest : List Value} {r : Option Value} {σ1 : am_H} {top1 sl1 : Nat} (hI : cd_I y pc = some (.invokevirtual idx, u, k)) (ho : σ b = some (.inr (.inr (1, v, g)))) (hmc : cd_mc u = 50) (hd : 0 < d) (hst : st = as'.reverse ++ .ref b :: rest) (hk : as'.length = k) (hsum : Nat.ble ((rest.map fun w => w.category).sum) 8 = true) (hu : Nat.ble u 1000 = true) (hl : Nat.ble (as'.length + 1) (cd_ml u) = true) (hc : as'.all am_c1 = true)
    (h1 : am_to cd_t cs (d - 1) u 0 (am_ent (cd_ml u) (.ref b :: as')) [] σ top sl (.inl r, σ1, top1, sl1)) (h2 : am_to cd_t cs d y (pc + 3) lv (r.toList ++ rest) σ1 top1 sl1 res) : am_to cd_t cs d y pc lv st σ top sl res := by
  refine am_to_call (t := cd_t) (as := .ref b :: as') (rest := rest) hI rfl ?_ (Nat.le_of_ble_eq_true hsum) (Nat.not_lt.mpr (Nat.le_of_ble_eq_true hu)) ⟨Nat.le_of_ble_eq_true hl, by rw [List.all_cons, hc]; rfl⟩ h1 h2
  subst hst
  subst hk
  show am_call cd_mc d _ σ _ u _ = _
  dsimp only [am_call]
  rw [if_neg (by omega)]
  have e1 : (as'.reverse ++ .ref b :: rest).drop as'.length = .ref b :: rest := by
    rw [List.drop_append_of_le_length (by rw [List.length_reverse]; exact Nat.le_refl _), List.drop_of_length_le (by rw [List.length_reverse]; exact Nat.le_refl _), List.nil_append]
  have e2 : (as'.reverse ++ .ref b :: rest).take as'.length = as'.reverse := by
    rw [List.take_append_of_le_length (by rw [List.length_reverse]; exact Nat.le_refl _), List.take_of_length_le (by rw [List.length_reverse]; exact Nat.le_refl _)]
  rw [e1, e2, List.reverse_reverse]
  try dsimp only
  rw [ho]
  exact if_pos hmc
theorem x_i2c {c : Nat} (hI : cd_I y pc = some (.i2c, u, k)) (hc : c < 65536) (h : am_to cd_t cs d y (pc + 1) lv (.int (ii c) :: st) σ top sl res) : am_to cd_t cs d y pc lv (.int (ii c) :: st) σ top sl res := by
  refine x_n hI rfl ?_ h
  dsimp only [am_step, am_i1]
  rw [i2c_ii hc]
  rfl
theorem end_char {c : Nat} (hy : cd_rt y = .char) (hc : c < 65536) : am_end (cd_rt y) [.int (ii c)] .ireturn = some (.inl (some (.int (ii c)))) := by
  rw [hy]
  show (if am_fr .char (.int (ii c)) = true then _ else _) = _
  rw [if_pos (by show decide (vp_nar .char (ii c) = ii c) = true; exact decide_eq_true (nar_char_ii hc))]
/-- a constant text -/
def strK (σ : am_H) (a : Nat) (w : List Nat) : Prop := ∃ (v : Nat) (f g : Nat → Int32), σ a = some (.inr (.inr (1, v, g))) ∧ σ v = some (.inr (.inr (2, w.length, f))) ∧ w.length ≤ 8 ∧ (∀ c ∈ w, 0 < c ∧ c < 127) ∧ ∀ j, j < w.length → f j = ii (w.getD j 0)
/-- what is set up before the law -/
def csOk (cs : Nat → Value) (ad : Nat → Nat) : Prop := cs 0 = .ref (ad 0) ∧ cs 1 = .ref (ad 1) ∧ cs 2 = .ref (ad 2) ∧ cs 3 = .int 1 ∧ am_c1 (cs 4) = true ∧ ∀ i j, i < 3 → j < 3 → ad i = ad j → i = j
theorem sh_8 : ∀ k, k < 9 → ii k >>> ((0 : Int32) &&& 31) = ii k := by decide
theorem and_255 : ∀ c, c < 127 → ii c &&& ii 255 = ii c := by decide
variable {ad : Nat → Nat} {a : Nat} {w : List Nat}
theorem x_coder (hcs : csOk cs ad) (h : strK σ a w) : am_to cd_t cs d 41 0 (am_ent 1 [.ref a]) [] σ top sl (.inl (some (.int 0)), σ, top, sl) := by
  obtain ⟨v, f, g, h1, h2, h3, h4, h5⟩ := h
  refine x_n cd_i41_0 rfl rfl ?_
  rw [hcs.2.2.2.1]
  refine x_if_f cd_i41_3 (fun z => absurd (show (1 : Int32) = 0 from z) (by decide)) ?_
  refine x_n cd_i41_6 rfl rfl ?_
  show am_to cd_t _ _ 41 7 _ _ _ _ _ _
  refine x_getK1 cd_i41_7 h1 ?_
  refine x_n cd_i41_10 rfl rfl ?_
  show am_to cd_t _ _ 41 14 _ _ _ _ _ _
  exact x_end cd_i41_14 rfl rfl rfl
theorem x_strlen (hd : 0 < d) (hcs : csOk cs ad) (h : strK σ a w) : am_to cd_t cs d 40 0 (am_ent 1 [.ref a]) [] σ top sl (.inl (some (.int (ii w.length))), σ, top, sl) := by
  have hc := x_coder (cs := cs) (d := d - 1) (top := top) (sl := sl) hcs h
  obtain ⟨v, f, g, h1, h2, h3, h4, h5⟩ := h
  refine x_n cd_i40_0 rfl rfl ?_
  show am_to cd_t _ _ 40 1 _ _ _ _ _ _
  refine x_getK0 cd_i40_1 h1 ?_
  refine x_lenK cd_i40_4 h2 ?_
  refine x_n cd_i40_5 rfl rfl ?_
  show am_to cd_t _ _ 40 6 _ _ _ _ _ _
  refine x_callk (as' := []) cd_i40_6 h1 rfl hd rfl rfl rfl rfl rfl rfl hc ?_
  refine x_ishr cd_i40_9 (sh_8 _ (by omega)) ?_
  exact x_end cd_i40_10 rfl rfl rfl
theorem x_isLatin1 (hcs : csOk cs ad) (h : strK σ a w) : am_to cd_t cs d 43 0 (am_ent 1 [.ref a]) [] σ top sl (.inl (some (.int (ii 1))), σ, top, sl) := by
  obtain ⟨v, f, g, h1, h2, h3, h4, h5⟩ := h
  refine x_n cd_i43_0 rfl rfl ?_
  rw [hcs.2.2.2.1]
  refine x_if_f cd_i43_3 (fun z => absurd (show (1 : Int32) = 0 from z) (by decide)) ?_
  refine x_n cd_i43_6 rfl rfl ?_
  show am_to cd_t _ _ 43 7 _ _ _ _ _ _
  refine x_getK1 cd_i43_7 h1 ?_
  refine x_if_f cd_i43_10 (fun z => z rfl) ?_
  refine x_ic cd_i43_13 (z := ii 1) rfl ?_
  refine x_n cd_i43_14 rfl rfl ?_
  show am_to cd_t _ _ 43 18 _ _ _ _ _ _
  exact x_end cd_i43_18 rfl rfl rfl
theorem x_checkIndex {i n : Nat} (hd : 0 < d) (hcs : csOk cs ad) (hi : i < n) (hn : n < 1000) : am_to cd_t cs d 45 0 (am_ent 2 [.int (ii i), .int (ii n)]) [] σ top sl (.inl none, σ, top, sl) := by
  refine x_n cd_i45_0 rfl rfl ?_
  refine x_n cd_i45_1 rfl rfl ?_
  show am_to cd_t _ _ 45 2 _ _ _ _ _ _
  refine x_n cd_i45_2 rfl rfl ?_
  have e : am_to cd_t cs (d - 1) 46 0 (am_ent 3 [.int (ii i), .int (ii n), cs 4]) [] σ top sl (.inl (some (.int (ii i))), σ, top, sl) := by
    refine x_n cd_i46_0 rfl rfl ?_
    show am_to cd_t _ _ 46 1 _ _ _ _ _ _
    refine x_if_f cd_i46_1 (ii_neg (by omega)) ?_
    refine x_n cd_i46_4 rfl rfl ?_
    refine x_n cd_i46_5 rfl rfl ?_
    show am_to cd_t _ _ 46 6 _ _ _ _ _ _
    refine x_icmp_t cd_i46_6 ((ii_lt (by omega) (by omega)).mpr hi) ?_
    refine x_n cd_i46_16 rfl rfl ?_
    show am_to cd_t _ _ 46 17 _ _ _ _ _ _
    exact x_end cd_i46_17 rfl rfl rfl
  refine x_calls (as := [.int (ii i), .int (ii n), cs 4]) cd_i45_5 hd rfl rfl rfl rfl rfl (by rw [List.all_cons, List.all_cons, List.all_cons, hcs.2.2.2.2.1]; rfl) e ?_
  refine x_n cd_i45_8 rfl rfl ?_
  show am_to cd_t _ _ 45 9 _ _ _ _ _ _
  exact x_end cd_i45_9 rfl rfl rfl
theorem x_strAt {i : Nat} (hd : 2 < d) (hcs : csOk cs ad) (h : strK σ a w) (hi : i < w.length) : am_to cd_t cs d 42 0 (am_ent 2 [.ref a, .int (ii i)]) [] σ top sl (.inl (some (.int (ii (w.getD i 0)))), σ, top, sl) := by
  have hL := x_isLatin1 (cs := cs) (d := d - 1) (top := top) (sl := sl) hcs h
  obtain ⟨v, f, g, h1, h2, h3, h4, h5⟩ := h
  have hc : w.getD i 0 < 127 := by
    rw [List.getD_eq_getElem?_getD, List.getElem?_eq_getElem hi]
    exact (h4 _ (List.getElem_mem hi)).2
  have e : am_to cd_t cs (d - 1) 44 0 (am_ent 2 [.ref v, .int (ii i)]) [] σ top sl (.inl (some (.int (ii (w.getD i 0)))), σ, top, sl) := by
    refine x_n cd_i44_0 rfl rfl ?_
    refine x_n cd_i44_1 rfl rfl ?_
    show am_to cd_t _ _ 44 2 _ _ _ _ _ _
    refine x_lenK cd_i44_2 h2 ?_
    refine x_calls (as := [.int (ii i), .int (ii w.length)]) (r := none) cd_i44_3 (by omega) rfl rfl rfl rfl rfl rfl (x_checkIndex (by omega) hcs hi (by omega)) ?_
    refine x_n cd_i44_6 rfl rfl ?_
    refine x_n cd_i44_7 rfl rfl ?_
    show am_to cd_t _ _ 44 8 _ _ _ _ _ _
    refine x_baload2 cd_i44_8 h2 hi (by omega) ?_
    rw [h5 i hi]
    refine x_si cd_i44_9 (z := ii 255) (by decide) ?_
    refine x_iand cd_i44_12 (and_255 _ hc) ?_
    refine x_i2c cd_i44_13 (by omega) ?_
    exact x_end cd_i44_14 rfl (end_char rfl (by omega)) rfl
  refine x_n cd_i42_0 rfl rfl ?_
  show am_to cd_t _ _ 42 1 _ _ _ _ _ _
  refine x_callk (as' := []) cd_i42_1 h1 rfl (by omega) rfl rfl rfl rfl rfl rfl hL ?_
  refine x_if_f cd_i42_4 (fun z => absurd (show (1 : Int32) = 0 from z) (by decide)) ?_
  refine x_n cd_i42_7 rfl rfl ?_
  show am_to cd_t _ _ 42 8 _ _ _ _ _ _
  refine x_getK0 cd_i42_8 h1 ?_
  refine x_n cd_i42_11 rfl rfl ?_
  show am_to cd_t _ _ 42 12 _ _ _ _ _ _
  refine x_calls (as := [.ref v, .int (ii i)]) cd_i42_12 (by omega) rfl rfl rfl rfl rfl rfl e ?_
  exact x_end cd_i42_15 rfl (end_char rfl (by omega)) rfl
end ST
/-- whether a text stands at a place -/
def pre (txt : List Nat) : Nat → List Nat → Bool
  | _, [] => true
  | p, c :: w => (txt.getD p 0 == c) && pre txt (p + 1) w
theorem pre_len {txt : List Nat} : ∀ (w : List Nat) (p : Nat), p ≤ txt.length → (∀ c ∈ w, 0 < c) → pre txt p w = true → p + w.length ≤ txt.length
  | [], p, hp, _, _ => by simpa using hp
  | c :: w, p, hp, hc, h => by
    unfold pre at h
    rw [Bool.and_eq_true, beq_iff_eq] at h
    have h0 := hc c List.mem_cons_self
    have hlt : p < txt.length := by
      by_cases h9 : p < txt.length
      · exact h9
      · rw [getD_out (by omega)] at h
        omega
    have := pre_len w (p + 1) hlt (fun x hx => hc x (List.mem_cons_of_mem _ hx)) h.2
    rw [List.length_cons]
    omega
section TT
variable {cs : Nat → Value} {d b top sl : Nat} {σ : am_H} {txt : List Nat} {p : Nat} {ad : Nat → Nat} {a : Nat} {w : List Nat}
theorem x_takeText_loop (hd : 3 < d) (hcs : csOk cs ad) (h : strK σ a w) (hB : X_buf σ b txt p) (hT : ∀ c ∈ txt, cok c) (hp : p + w.length ≤ txt.length) : ∀ (l : List Nat) (i : Nat), w.drop i = l → i + l.length = w.length →
    (pre txt (p + i) l = true ∧ ∀ res, am_to cd_t cs d 39 55 [some (.ref (b + 1)), some (.ref a), some (.int (ii w.length))] [] σ top sl res → am_to cd_t cs d 39 20 [some (.ref (b + 1)), some (.ref a), some (.int (ii i))] [] σ top sl res) ∨
    (pre txt (p + i) l = false ∧ am_to cd_t cs d 39 20 [some (.ref (b + 1)), some (.ref a), some (.int (ii i))] [] σ top sl (.inl (some (.int (ii 0))), σ, top, sl)) := by
  have hL := x_strlen (cs := cs) (d := d - 1) (top := top) (sl := sl) (by omega) hcs h
  have hA := fun i hi => x_strAt (cs := cs) (d := d - 1) (top := top) (sl := sl) (i := i) (by omega) hcs h hi
  obtain ⟨v, f, g, h1, h2, h3, h4, h5⟩ := h
  obtain ⟨b1, b2, ff, b3, b4⟩ := hB
  intro l
  induction l with
  | nil =>
    intro i e1 e2
    have e2 : i = w.length := by simpa using e2
    refine Or.inl ⟨rfl, fun res hh => ?_⟩
    refine x_n cd_i39_20 rfl rfl ?_
    refine x_n cd_i39_21 rfl rfl ?_
    show am_to cd_t _ _ 39 22 _ _ _ _ _ _
    refine x_callk (as' := []) cd_i39_22 h1 rfl (by omega) rfl rfl rfl rfl rfl rfl hL ?_
    refine x_icmp_t cd_i39_25 ((ii_le (by omega) (by omega)).mpr (by omega)) ?_
    rw [e2]
    exact hh
  | cons c l ih =>
    intro i e1 e2
    rw [List.length_cons] at e2
    have hi : i < w.length := by omega
    have hwi : w.getD i 0 = c := by
      have := congrArg (fun q => q.head?) e1
      rw [List.head?_drop] at this
      rw [List.getD_eq_getElem?_getD, this]
      rfl
    have hdr : w.drop (i + 1) = l := by
      have := congrArg List.tail e1
      rw [List.tail_drop] at this
      exact this
    have hlc := getD_cok hT (p + i)
    have hc : c < 127 := by
      rw [← hwi, List.getD_eq_getElem?_getD, List.getElem?_eq_getElem hi]
      exact (h4 _ (List.getElem_mem hi)).2
    have go : ∀ res, am_to cd_t cs d 39 44 [some (.ref (b + 1)), some (.ref a), some (.int (ii i))] [.int (ii c), .int (ii (txt.getD (p + i) 0))] σ top sl res → am_to cd_t cs d 39 20 [some (.ref (b + 1)), some (.ref a), some (.int (ii i))] [] σ top sl res := by
      intro res hh
      refine x_n cd_i39_20 rfl rfl ?_
      refine x_n cd_i39_21 rfl rfl ?_
      show am_to cd_t _ _ 39 22 _ _ _ _ _ _
      refine x_callk (as' := []) cd_i39_22 h1 rfl (by omega) rfl rfl rfl rfl rfl rfl hL ?_
      refine x_icmp_f cd_i39_25 (fun z => by have := (ii_le (by omega) (by omega)).mp (show ii w.length ≤ ii i from z); omega) ?_
      refine x_n cd_i39_28 rfl rfl ?_
      refine x_getf cd_i39_29 (by assumption) rfl rfl ?_
      refine x_n cd_i39_32 rfl rfl ?_
      refine x_getf cd_i39_33 (by assumption) rfl rfl ?_
      refine x_n cd_i39_36 rfl rfl ?_
      show am_to cd_t _ _ 39 37 _ _ _ _ _ _
      refine x_iadd cd_i39_37 (ii_add _ _) ?_
      refine x_cald cd_i39_38 b3 (by omega) (by decide) (b4 _ (by omega)) ?_
      refine x_n cd_i39_39 rfl rfl ?_
      refine x_n cd_i39_40 rfl rfl ?_
      show am_to cd_t _ _ 39 41 _ _ _ _ _ _
      refine x_callk (as' := [.int (ii i)]) cd_i39_41 h1 rfl (by omega) rfl rfl rfl rfl rfl rfl (hA i hi) ?_
      rw [hwi]
      exact hh
    unfold pre
    by_cases e : txt.getD (p + i) 0 = c
    · have nx : ∀ res, am_to cd_t cs d 39 20 [some (.ref (b + 1)), some (.ref a), some (.int (ii (i + 1)))] [] σ top sl res → am_to cd_t cs d 39 20 [some (.ref (b + 1)), some (.ref a), some (.int (ii i))] [] σ top sl res := by
        intro res hh
        refine go res ?_
        refine x_icmp_t cd_i39_44 (by rw [e]; exact rfl) ?_
        refine x_iinc cd_i39_49 rfl (ii_add _ 1) rfl ?_
        refine x_n cd_i39_52 rfl rfl ?_
        show am_to cd_t _ _ 39 20 _ _ _ _ _ _
        exact hh
      rw [beq_iff_eq.mpr e, Bool.true_and]
      rcases ih (i + 1) hdr (by omega) with ⟨k1, k2⟩ | ⟨k1, k2⟩
      · exact Or.inl ⟨k1, fun res hh => nx res (k2 res hh)⟩
      · exact Or.inr ⟨k1, nx _ k2⟩
    · rw [beq_eq_false_iff_ne.mpr e, Bool.false_and]
      refine Or.inr ⟨rfl, go _ ?_⟩
      refine x_icmp_f cd_i39_44 (fun z => e ((ii_eq (by omega) (by omega)).mp z)) ?_
      refine x_ic cd_i39_47 (z := ii 0) rfl ?_
      show am_to cd_t _ _ 39 48 _ _ _ _ _ _
      exact x_end cd_i39_48 rfl rfl rfl
theorem x_takeText (hd : 3 < d) (hcs : csOk cs ad) (h : strK σ a w) (hB : X_buf σ b txt p) (hT : ∀ c ∈ txt, cok c) (hp : p ≤ txt.length) :
    ∃ σ', am_to cd_t cs d 39 0 (am_ent 3 [.ref (b + 1), .ref a]) [] σ top sl (.inl (some (.int (b2i (pre txt p w)))), σ', top, sl) ∧ X_buf σ' b txt (if pre txt p w = true then p + w.length else p) ∧ ∀ q, q ≠ b + 1 → σ' q = σ q := by
  have hL := x_strlen (cs := cs) (d := d - 1) (top := top) (sl := sl) (by omega) hcs h
  have hL2 := h
  obtain ⟨v, f, g, h1, h2, h3, h4, h5⟩ := id h
  have b1 := hB.1
  have b2 := hB.2.1
  have first : ∀ res, am_to cd_t cs d 39 13 [some (.ref (b + 1)), some (.ref a), none] [.int (ii (txt.length - p)), .int (ii w.length)] σ top sl res → am_to cd_t cs d 39 0 (am_ent 3 [.ref (b + 1), .ref a]) [] σ top sl res := by
    intro res hh
    refine x_n cd_i39_0 rfl rfl ?_
    show am_to cd_t _ _ 39 1 _ _ _ _ _ _
    refine x_callk (as' := []) cd_i39_1 h1 rfl (by omega) rfl rfl rfl rfl rfl rfl hL ?_
    refine x_n cd_i39_4 rfl rfl ?_
    refine x_getf cd_i39_5 (by assumption) rfl rfl ?_
    refine x_n cd_i39_8 rfl rfl ?_
    refine x_getf cd_i39_9 (by assumption) rfl rfl ?_
    show am_to cd_t _ _ 39 12 _ _ _ _ _ _
    refine x_isub cd_i39_12 (ii_sub hp) ?_
    exact hh
  by_cases hl : p + w.length ≤ txt.length
  · have start : ∀ res, am_to cd_t cs d 39 20 [some (.ref (b + 1)), some (.ref a), some (.int (ii 0))] [] σ top sl res → am_to cd_t cs d 39 0 (am_ent 3 [.ref (b + 1), .ref a]) [] σ top sl res := by
      intro res hh
      refine first res ?_
      refine x_icmp_t cd_i39_13 ((ii_le (by omega) (by omega)).mpr (by omega)) ?_
      refine x_ic cd_i39_18 (z := ii 0) rfl ?_
      refine x_n cd_i39_19 rfl rfl ?_
      try dsimp only [List.set]
      show am_to cd_t _ _ 39 20 _ _ _ _ _ _
      exact hh
    rcases x_takeText_loop (cs := cs) (d := d) (top := top) (sl := sl) hd hcs h hB hT hl w 0 rfl (Nat.zero_add _) with ⟨k1, k2⟩ | ⟨k1, k2⟩
    · rw [Nat.add_zero] at k1
      rw [k1, if_pos rfl]
      refine ⟨_, start _ (k2 _ ?_), hB.at _, fun q hq => am_up_ne _ _ hq⟩
      refine x_n cd_i39_55 rfl rfl ?_
      refine x_n cd_i39_56 rfl rfl ?_
      refine x_getf cd_i39_57 (by assumption) rfl rfl ?_
      refine x_n cd_i39_60 rfl rfl ?_
      show am_to cd_t _ _ 39 61 _ _ _ _ _ _
      refine x_callk (as' := []) cd_i39_61 h1 rfl (by omega) rfl rfl rfl rfl rfl rfl hL ?_
      refine x_iadd cd_i39_64 (ii_add _ _) ?_
      refine x_putf cd_i39_65 (fs' := [.ref (b + 2), .int (ii txt.length), .int (ii (p + w.length))]) b1 rfl rfl rfl ?_
      refine x_ic cd_i39_68 (z := ii 1) rfl ?_
      show am_to cd_t _ _ 39 69 _ _ _ _ _ _
      exact x_end cd_i39_69 rfl rfl rfl
    · rw [Nat.add_zero] at k1
      rw [k1, if_neg (by decide)]
      exact ⟨σ, start _ k2, hB, fun q _ => rfl⟩
  · have e : pre txt p w = false := by
      cases hh : pre txt p w with
      | false => rfl
      | true => exact absurd (pre_len w p hp (fun c hc => (h4 c hc).1) hh) hl
    rw [e, if_neg (by decide)]
    refine ⟨σ, first _ ?_, hB, fun q _ => rfl⟩
    refine x_icmp_f cd_i39_13 (fun z => by have := (ii_le (by omega) (by omega)).mp (show ii w.length ≤ ii (txt.length - p) from z); omega) ?_
    refine x_ic cd_i39_16 (z := ii 0) rfl ?_
    show am_to cd_t _ _ 39 17 _ _ _ _ _ _
    exact x_end cd_i39_17 rfl rfl rfl
end TT
