/-! the law's start -/
theorem fit_start : ∀ t, t < 13 → ∀ w, w < 13 → (((if t = 0 then 3 else c_bit t) >>> (ii w &&& 31)) &&& ii 1 = ii 1 ↔ (t = w ∨ (t = 0 ∧ w = 1))) := by decide
theorem fitM_start {t w : Nat} (ht : t < 13) (hw : w < 13) : fitM (fun _ => none) t w ↔ (t = w ∨ (t = 0 ∧ w = 1)) := by
  unfold fitM
  have e : ∀ x, chain (fun _ => none) 11 x = [x] := fun x => rfl
  rw [e, List.mem_singleton]
  omega
theorem X_fit_start {σ : am_H} {b : Nat} (h : ∃ f : Nat → Int32, σ (b + 5) = some (.inl (.int, 13, .inl f)) ∧ f 0 = 3 ∧ ∀ i, 0 < i → i < 13 → f i = c_bit i) : X_fit σ b (fun _ => none) := by
  obtain ⟨f, h1, h2, h3⟩ := h
  refine ⟨f, h1, fun t w ht hw => ?_⟩
  have e : f t = if t = 0 then 3 else c_bit t := by
    by_cases h0 : t = 0
    · rw [if_pos h0, h0, h2]
    · rw [if_neg h0, h3 t (by omega) ht]
  rw [e, fitM_start ht hw]
  exact fit_start t ht w hw
theorem sh0_shf {σ : am_H} {s : Nat} (h : sh0 σ s (s + 1)) : shf σ s [] 0 (fun i => i) := by
  obtain ⟨h1, g, h2, h3, h4⟩ := h
  refine ⟨h1, by decide, ⟨g, h3, fun i hi => ?_⟩, fun i hi => ?_, ⟨fun i hi => hi, fun i j _ _ e => e⟩, fun i hi => absurd hi (Nat.not_lt_zero i)⟩
  · rw [h2 i hi]
  · obtain ⟨p1, p2⟩ := h4 i hi
    exact ⟨[], 0, 0, fun _ => 0, p1, p2, by decide, fun j hj => absurd hj (Nat.not_lt_zero j)⟩
theorem strK_start {σ : am_H} {a v : Nat} {w : List Nat} {l : List Int32} {n : Nat} (h1 : σ a = some (.inr (.inr (1, v, fun _ => 0)))) (h2 : σ v = some (.inr (.inr (2, n, fun j => l.getD j 0)))) (hn : n = w.length) (h8 : w.length ≤ 8) (hw : ∀ c ∈ w, 0 < c ∧ c < 127) (hl : ∀ j, j < w.length → l.getD j 0 = ii (w.getD j 0)) : strK σ a w := by
  subst hn
  exact ⟨v, _, _, h1, h2, h8, hw, hl⟩
theorem cd_done : cd_claim := by
  intro q L xs ad adK adV w b σ hini
  obtain ⟨hL, hw, had, hqb, hKV, hq, hstr, hdom⟩ := hini
  have hcs : csOk (cd_cs ad adK w) ad := by
    refine ⟨rfl, rfl, rfl, rfl, ?_, had⟩
    show am_c1 w = true
    rcases hw with e | ⟨t, e⟩
    · rw [e]; rfl
    · rw [e]; rfl
  have hS : csS (cd_cs ad adK w) σ b := by
    refine ⟨adK, rfl, rfl, rfl, rfl, fun σ' hσ => ?_⟩
    have hk : ∀ i, i < 4 → σ' (adK i) = some (.inr (.inr (1, adV i, fun _ => 0))) ∧ σ' (adV i) = some (.inr (.inr (2, cd_len.getD i 0, fun j => (cd_byt.getD i []).getD j 0))) := fun i hi => ⟨(hσ _ (hKV i hi).1).trans (hstr i hi).1, (hσ _ (hKV i hi).2).trans (hstr i hi).2⟩
    refine ⟨strK_start (hk 0 (by decide)).1 (hk 0 (by decide)).2 rfl (by decide) (by decide) (by decide), strK_start (hk 1 (by decide)).1 (hk 1 (by decide)).2 rfl (by decide) (by decide) (by decide), strK_start (hk 2 (by decide)).1 (hk 2 (by decide)).2 rfl (by decide) (by decide) (by decide), strK_start (hk 3 (by decide)).1 (hk 3 (by decide)).2 rfl (by decide) (by decide) (by decide)⟩
  obtain ⟨s1, c1, c2, c3⟩ := c_desk (cs := cd_cs ad adK w) (d := 1311) (σ := am_up σ b (.inr (.inl (0, cd_df 0)))) (sl := 7) (b := b) (by decide) (am_up_self _ _ _)
  obtain ⟨s2, k1, k2, k3⟩ := c_model (cs := cd_cs ad adK w) (d := 1311) (σ := am_up s1 (b + 88) (.inr (.inl (11, cd_df 11)))) (m := b + 88) (sl := 7 + 1186 + 39) (by decide) (am_up_self _ _ _)
  obtain ⟨s3, hs3⟩ : ∃ s, s = am_up s2 (b + 113) (.inl (.long, 1, .inr (.inl fun _ => 0))) := ⟨_, rfl⟩
  have f3 : ∀ x, x < b + 88 → s3 x = s1 x := fun x hx => by rw [hs3, am_up_ne _ _ (by omega), k3 x hx, am_up_ne _ _ (by omega)]
  have f0 : ∀ x, x < b → s3 x = σ x := fun x hx => by rw [f3 x (by omega), c3 x hx, am_up_ne _ _ (by omega)]
  obtain ⟨d1, d2, d3, d4, d5, d6, d7, d8, d9, d10, d11, d12, ⟨g, d13, d14⟩, d15, d16, d17, d18⟩ := c2
  have X : XI (cd_cs ad adK w) ad b s3 (b + 114) 0 [] (fun _ => none) (-1) (fun _ => 0) (fun _ _ => 0) 0 [] [] := by
    refine ⟨hS.kept f0, (f3 _ (by omega)).trans d1, ⟨(f3 _ (by omega)).trans d2, by decide, fun _ => 0, (f3 _ (by omega)).trans d3, fun j hj => absurd hj (Nat.not_lt_zero j)⟩, ⟨(f3 _ (by omega)).trans d4, ⟨fun _ => none, (f3 _ (by omega)).trans d5, fun c hc => rfl⟩, (fun c D hc hD => by cases hD), X_fit_start ?_, (fun c D c' D' i i' hD => by cases hD)⟩, (f3 _ (by omega)).trans d10, (f3 _ (by omega)).trans d11, ⟨(f3 _ (by omega)).trans d7, by decide, (fun q hq => by cases hq), fun _ => 0, fun _ => 0, (f3 _ (by omega)).trans d8, (f3 _ (by omega)).trans d9, fun j hj => absurd hj (Nat.not_lt_zero j)⟩, ⟨⟨b + 16, (f3 _ (by omega)).trans d12⟩, by decide, fun _ => none, (f3 _ (by omega)).trans d15, fun i hi => absurd hi (Nat.not_lt_zero i)⟩, ⟨g, (f3 _ (by omega)).trans d13, d14⟩, fun k hk => ?_, [], 0, 0, fun _ => 0, (f3 _ (by omega)).trans d16, (f3 _ (by omega)).trans d17, by decide, fun j hj => absurd hj (Nat.not_lt_zero j)⟩
    · obtain ⟨f, g1, g2⟩ := d6
      exact ⟨f, (f3 _ (by omega)).trans g1, g2⟩
    · exact ⟨[], 0, fun i => i, (sh0_shf (d18 k hk)).kept (fun x x1 x2 => f3 x (by omega))⟩
  have M : MI b s3 0 [] (fun _ => none) (-1) [] [] mi0 ma0 := by
    refine ⟨k2.kept (fun x x1 x2 => by rw [hs3, am_up_ne _ _ (by omega)]), ⟨rfl, by decide, fun j hj => absurd hj (Nat.not_lt_zero j)⟩, fun c hc => ⟨fun _ => rfl, (fun D hD => by cases hD)⟩, fun c hc _ => rfl, rfl, ⟨rfl, by decide, (fun q hq => by cases hq), fun j hj => absurd hj (Nat.not_lt_zero j)⟩, ⟨rfl, by decide, fun j hj => absurd hj (Nat.not_lt_zero j)⟩, rfl⟩
  have I : inv (cd_cs ad adK w) ad q L xs b s3 (b + 114) := by
    refine ⟨0, [], fun _ => none, -1, fun _ => 0, fun _ _ => 0, fun _ => 0, 0, [], [], mi0, ma0, X, M, ⟨(f0 q hqb).trans hq, fun _ => 0, hs3 ▸ am_up_self _ _ _⟩, ⟨(fun c D hD => by cases hD), ⟨(fun c D hD => by cases hD), (fun c D hD => by cases hD)⟩, (fun i j hi => absurd hi (Nat.not_lt_zero i)), (fun c hc => by cases hc)⟩, Nat.le_refl _⟩
  obtain ⟨s4, t4, l4, r1, r2, r3⟩ := l_loop (cs := cd_cs ad adK w) (d := 1312) (by decide) hcs hL hqb 512 0 s3 (b + 114) (7 + 1186 + 39 + 2309 + 1) none none (by omega) (by omega) I
  refine ⟨s4, t4, l4, ?_, by omega, by omega⟩
  refine x_new cd_i0_0 rfl ?_
  refine x_n cd_i0_3 rfl rfl ?_
  show am_to cd_t _ _ 0 4 _ _ _ _ _ _
  refine x_calli (as' := []) (r := none) cd_i0_4 (by decide) rfl rfl rfl rfl rfl rfl c1 ?_
  refine x_n cd_i0_7 rfl rfl ?_
  try dsimp only [List.set]
  show am_to cd_t _ _ 0 8 _ _ _ _ _ _
  refine x_new cd_i0_8 rfl ?_
  refine x_n cd_i0_11 rfl rfl ?_
  show am_to cd_t _ _ 0 12 _ _ _ _ _ _
  refine x_calli (as' := []) (r := none) cd_i0_12 (by decide) rfl rfl rfl rfl rfl rfl k1 ?_
  refine x_n cd_i0_15 rfl rfl ?_
  try dsimp only [List.set]
  show am_to cd_t _ _ 0 16 _ _ _ _ _ _
  refine x_ic cd_i0_16 (z := ii 1) rfl ?_
  refine x_newla cd_i0_17 (by decide) ?_
  refine hs3 ▸ ?_
  refine x_n cd_i0_19 rfl rfl ?_
  try dsimp only [List.set]
  refine x_ic cd_i0_20 (z := ii 0) rfl ?_
  refine x_n cd_i0_21 rfl rfl ?_
  try dsimp only [List.set]
  show am_to cd_t _ _ 0 23 _ _ _ _ _ _
  exact r1
