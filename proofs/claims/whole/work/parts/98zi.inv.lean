/-! the law's loop: what holds between two calls -/
def XI (cs : Nat → Value) (ad : Nat → Nat) (b : Nat) (σ : am_H) (top : Nat) (v : Int32) (txt : List Nat) (dec : Nat → Option Dec) (pl : Int32) (da : Nat → Nat) (ea : Nat → Nat → Nat) (k0 : Nat) (vs : List (List Nat × Nat)) (pr : List (List Nat × Nat × Nat)) : Prop :=
  csS cs σ b ∧ X_o σ b (.int v) ∧ X_buf σ b txt 0 ∧ X_cat ad σ b top dec pl da ea ∧ σ (b + 9) = some (.inr (.inl (5, [.ref (b + 1), .ref (b + 3)]))) ∧ X_er σ b k0 ∧ X_sco σ b vs ∧ X_pb σ b pr ∧ X_shl σ b
def MI (b : Nat) (σ : am_H) (v : Int32) (txt : List Nat) (dec : Nat → Option Dec) (pl : Int32) (vs : List (List Nat × Nat)) (pr : List (List Nat × Nat × Nat)) (i : Nat → Int32) (a : Nat → Nat → Int32) : Prop :=
  mo σ (b + 88) i a ∧ M_buf i a txt ∧ M_cat a dec ∧ M_und a dec ∧ i 18 = pl ∧ M_sco i a vs ∧ M_pr i a pr ∧ i 32 = v
def OI (q L : Nat) (xs : Nat → Int32) (b : Nat) (σ : am_H) : Prop := σ q = some (.inr (.inr (0, L, xs))) ∧ ∃ f : Nat → Int64, σ (b + 113) = some (.inl (.long, 1, .inr (.inl f)))
def LI (dec : Nat → Option Dec) (rk : Nat → Nat) (vs : List (List Nat × Nat)) (txt : List Nat) : Prop := catOk dec ∧ rankC dec rk ∧ distV vs ∧ ∀ c ∈ txt, cok c
section INV
variable {cs : Nat → Value} {ad : Nat → Nat} {b : Nat} {σ σ' : am_H} {top top' : Nat} {v : Int32} {txt : List Nat} {dec : Nat → Option Dec} {pl : Int32} {da : Nat → Nat} {ea : Nat → Nat → Nat} {k0 : Nat} {vs : List (List Nat × Nat)} {pr : List (List Nat × Nat × Nat)} {i i' : Nat → Int32} {a a' : Nat → Nat → Int32} {q L : Nat} {xs : Nat → Int32}
theorem XI.kept (h : XI cs ad b σ top v txt dec pl da ea k0 vs pr) (hf : ∀ x, x < b + 88 ∨ b + 114 ≤ x → x < top → σ' x = σ x) (ht : b + 114 ≤ top) : XI cs ad b σ' top v txt dec pl da ea k0 vs pr := by
  obtain ⟨h1, h2, h3, h4, h5, h6, h7, h8, h9⟩ := h
  exact ⟨h1.kept (fun x hx => hf x (by omega) (by omega)), (hf _ (by omega) (by omega)).trans h2, h3.kept (hf _ (by omega) (by omega)) (hf _ (by omega) (by omega)), h4.kept (hf _ (by omega) (by omega)) (hf _ (by omega) (by omega)) (hf _ (by omega) (by omega)) (fun x x1 x2 => hf x (by omega) (by omega)) (Nat.le_refl _), (hf _ (by omega) (by omega)).trans h5, (hf _ (by omega) (by omega)).trans h6, h7.kept (fun x x1 x2 => hf x (by omega) (by omega)), h8.kept (fun x x1 x2 => hf x (by omega) (by omega)), h9.kept (fun x x1 x2 => hf x (by omega) (by omega))⟩
theorem MI.kept (h : MI b σ v txt dec pl vs pr i a) (hf : ∀ x, b + 88 ≤ x → x < b + 113 → σ' x = σ x) : MI b σ' v txt dec pl vs pr i a := ⟨h.1.kept (fun x x1 x2 => hf x x1 (by omega)), h.2⟩
theorem M_buf.sm (h : M_buf i a txt) (h2 : i' 2 = i 2) (h1 : a' 1 = a 1) : M_buf i' a' txt := ⟨h2.trans h.1, h.2.1, fun j hj => by rw [h1]; exact h.2.2 j hj⟩
theorem M_und.sm (h : M_und a dec) (h4 : a' 4 = a 4) : M_und a' dec := fun c hc hd => by rw [h4]; exact h c hc hd
theorem M_sco.sm (h : M_sco i a vs) (h15 : i' 15 = i 15) (h12 : a' 12 = a 12) (h13 : a' 13 = a 13) : M_sco i' a' vs := ⟨h15.trans h.1, h.2.1, h.2.2.1, fun j hj => by rw [h12, h13]; exact h.2.2.2 j hj⟩
theorem M_pr.sm (h : M_pr i a pr) (h27 : i' 27 = i 27) (h19 : a' 19 = a 19) (h20 : a' 20 = a 20) (h21 : a' 21 = a 21) (h22 : a' 22 = a 22) : M_pr i' a' pr := ⟨h27.trans h.1, h.2.1, fun j hj => by rw [h19, h20, h21, h22]; exact h.2.2 j hj⟩
/-- a call of the reference that leaves all but the thrown kind -/
theorem MI.zero (h : MI b σ v txt dec pl vs pr i a) (hm : mo σ' (b + 88) i' a) (hi : ∀ k, k ≠ 0 → i' k = i k) : MI b σ' v txt dec pl vs pr i' a := by
  obtain ⟨h1, h2, h3, h4, h5, h6, h7, h8⟩ := h
  exact ⟨hm, h2.sm (hi 2 (by decide)) rfl, h3, h4, (hi 18 (by decide)).trans h5, h6.sm (hi 15 (by decide)) rfl rfl, h7.sm (hi 27 (by decide)) rfl rfl rfl rfl, (hi 32 (by decide)).trans h8⟩
theorem OI.kept (h : OI q L xs b σ) (hq : q < b) (hf : ∀ x, x < b ∨ x = b + 113 → σ' x = σ x) : OI q L xs b σ' := by
  obtain ⟨h1, f, h2⟩ := h
  exact ⟨(hf q (by omega)).trans h1, f, (hf _ (by omega)).trans h2⟩
def inv (cs : Nat → Value) (ad : Nat → Nat) (q L : Nat) (xs : Nat → Int32) (b : Nat) (σ : am_H) (top : Nat) : Prop :=
  ∃ (v : Int32) (txt : List Nat) (dec : Nat → Option Dec) (pl : Int32) (da : Nat → Nat) (ea : Nat → Nat → Nat) (rk : Nat → Nat) (k0 : Nat) (vs : List (List Nat × Nat)) (pr : List (List Nat × Nat × Nat)) (i : Nat → Int32) (a : Nat → Nat → Int32),
  XI cs ad b σ top v txt dec pl da ea k0 vs pr ∧ MI b σ v txt dec pl vs pr i a ∧ OI q L xs b σ ∧ LI dec rk vs txt ∧ b + 114 ≤ top
/-- one call of the script: from the row p on to the loop's end -/
def stp (cs : Nat → Value) (ad : Nat → Nat) (q L : Nat) (xs : Nat → Int32) (b d n p : Nat) (σ : am_H) (top sl : Nat) (v5 v6 : Option Value) : Prop :=
  ∃ (σ' : am_H) (top' sl' : Nat) (v5' v6' : Option Value), inv cs ad q L xs b σ' top' ∧ top' ≤ top + 15 ∧ sl' ≤ sl + 70 ∧
    ∀ res, am_to cd_t cs d 0 574 [some (.ref q), some (.ref b), some (.ref (b + 88)), some (.ref (b + 113)), some (.int (ii n)), v5', v6'] [] σ' top' sl' res → am_to cd_t cs d 0 p [some (.ref q), some (.ref b), some (.ref (b + 88)), some (.ref (b + 113)), some (.int (ii n)), v5, v6] [] σ top sl res
theorem x_lcmp {cs : Nat → Value} {d y pc u k : Nat} {lv : am_V} {st : List Value} {σ : am_H} {top sl : Nat} {res : am_R} {x : Int64} (hI : cd_I y pc = some (.lcmp, u, k)) (h : am_to cd_t cs d y (pc + 1) lv (.int 0 :: st) σ top sl res) : am_to cd_t cs d y pc lv (.long x :: .long x :: st) σ top sl res := by
  refine x_n hI rfl ?_ h
  show some (pc + 1, lv, Value.int (lg_cmp x x) :: st, σ, top, sl) = _
  have : lg_cmp x x = 0 := by simp [lg_cmp]
  rw [this]
theorem put_cok {w n : Int32} (h : ∀ c ∈ txt, cok c) : ∀ c ∈ (putM txt w n).getD txt, cok c := by
  unfold putM
  split
  · next hh =>
    intro c hc
    have hc : c ∈ txt ++ (List.range n.toNatClampNeg).map (fun i => cn w (n.toNatClampNeg - 1 - i)) := hc
    rcases List.mem_append.mp hc with h1 | h1
    · exact h c h1
    · obtain ⟨j, hj, e⟩ := List.mem_map.mp h1
      rw [List.mem_range] at hj
      rw [← e]
      exact hh.2.2.2 _ (by omega)
  · exact h
theorem var_dist {w : List Nat} {t : Nat} (h : distV vs) (hp : pVar txt vs = some (w, t)) : distV (vs ++ [(w, t)]) := by
  have hn : varT vs w = none := by
    unfold pVar at hp
    split at hp
    · cases hp
    · split at hp
      · split at hp
        · cases hp
        · split at hp
          · next hc =>
            have e := (Prod.mk.inj (Option.some.inj hp)).1
            rw [← e]
            exact hc.2
          · cases hp
      · cases hp
  have hne : ∀ k, k < vs.length → (vs.getD k default).1 ≠ w := by
    intro k hk e
    unfold varT at hn
    rw [Option.map_eq_none_iff, List.find?_eq_none] at hn
    have := hn (vs.getD k default) (by rw [List.getD_eq_getElem?_getD, List.getElem?_eq_getElem hk]; exact List.getElem_mem hk)
    rw [beq_iff_eq] at this
    exact this e
  have gl : ∀ k, k < vs.length → (vs ++ [(w, t)]).getD k default = vs.getD k default := fun k hk => by
    rw [List.getD_eq_getElem?_getD, List.getElem?_append_left hk, ← List.getD_eq_getElem?_getD]
  have gr : (vs ++ [(w, t)]).getD vs.length default = (w, t) := by
    rw [List.getD_eq_getElem?_getD, List.getElem?_append_right (Nat.le_refl _), Nat.sub_self]
    rfl
  intro i j hi hj e
  rw [List.length_append, List.length_singleton] at hi hj
  by_cases ei : i = vs.length
  · by_cases ej : j = vs.length
    · omega
    · rw [ei, gr, gl j (by omega)] at e
      exact absurd e.symm (hne j (by omega))
  · by_cases ej : j = vs.length
    · rw [ej, gr, gl i (by omega)] at e
      exact absurd e (hne i (by omega))
    · rw [gl i (by omega), gl j (by omega)] at e
      exact h i j (by omega) (by omega) e
end INV
