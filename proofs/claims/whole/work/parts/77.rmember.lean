/-! the members of a declaration -/
def injN (f : Nat → Nat) (n : Nat) : Prop := ∀ i j, i < n → j < n → f i = f j → i = j
theorem injN.app {f : Nat → Nat} {n e : Nat} (h : injN f n) (hf : ∀ i, i < n → f i < e) : injN (upN f n e) (n + 1) := by
  intro i j hi hj he
  unfold upN at he
  split at he
  · split at he
    · omega
    · have := hf j (by omega)
      omega
  · split at he
    · have := hf i (by omega)
      omega
    · exact h i j (by omega) (by omega) he
theorem mem_app {ms : List Mem} {M : Mem} {j : Nat} (h : j < ms.length) : (ms ++ [M]).getD j default = ms.getD j default := by
  rw [List.getD_eq_getElem?_getD, List.getD_eq_getElem?_getD, List.getElem?_append_left h]
theorem mem_app_last {ms : List Mem} {M : Mem} : (ms ++ [M]).getD ms.length default = M := by
  rw [List.getD_eq_getElem?_getD, List.getElem?_append_right (Nat.le_refl _), Nat.sub_self]
  rfl
theorem dist_app {ms : List Mem} {M : Mem} (h : distM ms) (ha : ms.all (fun N => !isNm M.1 M.2.2.2.1 N) = true) : distM (ms ++ [M]) := by
  have ha := all_getD.mp ha
  have ha : ∀ j, j < ms.length → (ms.getD j default).1 = M.1 → (ms.getD j default).2.2.2.1 = M.2.2.2.1 → False := by
    intro j hj e1 e2
    have := ha j hj
    unfold isNm at this
    rw [e1, e2, beq_self_eq_true, beq_self_eq_true] at this
    cases this
  have el : (ms ++ [M]).length = ms.length + 1 := List.length_append
  intro i j hi hj e1 e2
  rw [el] at hi hj
  by_cases hi' : i = ms.length
  · by_cases hj' : j = ms.length
    · omega
    · rw [hi', mem_app_last, mem_app (by omega)] at e1 e2
      exact (ha j (by omega) e1.symm e2.symm).elim
  · by_cases hj' : j = ms.length
    · rw [hj', mem_app_last, mem_app (by omega)] at e1 e2
      exact (ha i (by omega) e1 e2).elim
    · rw [mem_app (by omega), mem_app (by omega)] at e1 e2
      exact h i j (by omega) (by omega) e1 e2
def pMs (dec : Nat → Option Dec) (par : Option Nat) (c : Nat) (txt : List Nat) : Nat → Nat → List Mem → Option (List Mem × Nat)
  | 0, _, _ => none
  | n + 1, p, ms => match pMem txt p c with
    | none => none
    | some R => if okM dec par ms R.1 = true then (if txt.getD R.2 0 = 59 then pMs dec par c txt n (R.2 + 1) (ms ++ [R.1]) else if txt.getD R.2 0 = 125 then some (ms ++ [R.1], R.2 + 1) else none) else none
def pMbs (dec : Nat → Option Dec) (par : Option Nat) (c : Nat) (txt : List Nat) (p : Nat) : Option (List Mem × Nat) := if txt.getD p 0 = 125 then some ([], p + 1) else pMs dec par c txt 6 p []
section RMS
variable {cs : Nat → Value} {d b top sl : Nat} {σ : am_H} {ad : Nat → Nat} {lo : Nat} {dec : Nat → Option Dec} {pl : Int32} {da : Nat → Nat} {ea : Nat → Nat → Nat} {txt : List Nat} {p a c : Nat} {par : Option Nat} {ms : List Mem} {ea' : Nat → Nat} {rk : Nat → Nat}
theorem x_member_tail {top' sl' p' : Nat} {σ' : am_H} {r : Option Nat} {v2 : Option Value} {O : Option (Mem × Nat)} (hd : 3 < d) (hcs : csOk cs ad) (hC : X_cat ad σ' b lo dec pl da ea) (hO : catOk dec) (hr : ranked dec rk) (hA : decAt ad σ' lo top' a c (par.map da) ms ea') (hms : ∀ M ∈ ms, memOk M) (hdist : distM ms) (hpar : ∀ p, par = some p → ∃ D, dec p = some D) (hl : ms.length < 6) (hlo : lo ≤ top) (hres : (r = none ∧ O = none) ∨ ∃ R, O = some R ∧ r = some top ∧ R.2 = p' ∧ memAt ad σ' top top' top R.1) (hM : ∀ R, O = some R → memOk R.1) :
    ∃ σ2, (∀ x, x < lo → σ2 x = σ' x) ∧ ((am_to cd_t cs d 38 39 [some (.ref (b + 9)), some (.ref a), v2, none] [va_rf r] σ' top' sl' (.inl (some (.int (b2i false))), σ2, top', sl') ∧ ∀ R, O = some R → okM dec par ms R.1 = false) ∨
      ∃ M, am_to cd_t cs d 38 39 [some (.ref (b + 9)), some (.ref a), v2, none] [va_rf r] σ' top' sl' (.inl (some (.int (b2i true))), σ2, top', sl') ∧ O = some (M, p') ∧ okM dec par ms M = true ∧ decAt ad σ2 lo top' a c (par.map da) (ms ++ [M]) (upN ea' ms.length top)) := by
  obtain ⟨q1, q2, qr, qg, q3, q4, q5, q6, q7, q8⟩ := id hA
  rcases hres with ⟨h1, h2⟩ | ⟨R, h1, h2, h3, h4⟩
  · refine ⟨σ', fun _ _ => rfl, Or.inl ⟨?_, (fun R hR => by rw [h2] at hR; cases hR)⟩⟩
    rw [h1]
    refine x_n cd_i38_39 rfl rfl ?_
    try dsimp only [List.set]
    refine x_n cd_i38_40 rfl rfl ?_
    show am_to cd_t _ _ 38 41 _ _ _ _ _ _
    refine x_null_t cd_i38_41 ?_
    refine x_ic cd_i38_64 (z := ii 0) rfl ?_
    show am_to cd_t _ _ 38 65 _ _ _ _ _ _
    exact x_end cd_i38_65 rfl rfl rfl
  · have hal := x_allows (cs := cs) (d := d - 1) (top := top') (sl := sl') (by omega) hcs hC hO hr h4 (hM R h1) hA hms hdist hpar
    have go : ∀ res, am_to cd_t cs d 38 49 [some (.ref (b + 9)), some (.ref a), v2, some (.ref top)] [.int (b2i (okM dec par ms R.1))] σ' top' sl' res → am_to cd_t cs d 38 39 [some (.ref (b + 9)), some (.ref a), v2, none] [va_rf r] σ' top' sl' res := by
      intro res hh
      rw [h2]
      refine x_n cd_i38_39 rfl rfl ?_
      try dsimp only [List.set]
      refine x_n cd_i38_40 rfl rfl ?_
      show am_to cd_t _ _ 38 41 _ _ _ _ _ _
      refine x_null_f cd_i38_41 ?_
      refine x_n cd_i38_44 rfl rfl ?_
      refine x_n cd_i38_45 rfl rfl ?_
      show am_to cd_t _ _ 38 46 _ _ _ _ _ _
      refine x_callv (as' := [.ref top]) cd_i38_46 q5 (by omega) rfl rfl rfl rfl rfl rfl hal ?_
      exact hh
    cases hb : okM dec par ms R.1 with
    | false =>
      rw [hb] at go
      refine ⟨σ', fun _ _ => rfl, Or.inl ⟨go _ ?_, (fun R' hR => by rw [h1] at hR; rw [← Option.some.inj hR]; exact hb)⟩⟩
      refine x_if_t cd_i38_49 rfl ?_
      refine x_ic cd_i38_64 (z := ii 0) rfl ?_
      show am_to cd_t _ _ 38 65 _ _ _ _ _ _
      exact x_end cd_i38_65 rfl rfl rfl
    | true =>
      rw [hb] at go
      obtain ⟨s2, k1, k2, k3⟩ := x_decAdd (cs := cs) (d := d - 1) (top := top') (sl := sl') (h4.wide hlo (Nat.le_refl _)) hA hl
      refine ⟨s2, k3, Or.inr ⟨R.1, go _ ?_, by rw [h1, ← h3], hb, k2⟩⟩
      refine x_if_f cd_i38_49 (fun z => absurd (show (1 : Int32) = 0 from z) (by decide)) ?_
      refine x_n cd_i38_52 rfl rfl ?_
      refine x_n cd_i38_53 rfl rfl ?_
      show am_to cd_t _ _ 38 54 _ _ _ _ _ _
      refine x_callv (as' := [.ref top]) cd_i38_54 q5 (by omega) rfl rfl rfl rfl rfl rfl k1 ?_
      refine x_if_f cd_i38_57 (fun z => absurd (show (1 : Int32) = 0 from z) (by decide)) ?_
      refine x_ic cd_i38_60 (z := ii 1) rfl ?_
      refine x_n cd_i38_61 rfl rfl ?_
      show am_to cd_t _ _ 38 65 _ _ _ _ _ _
      exact x_end cd_i38_65 rfl rfl rfl
theorem x_readMember (hd : 5 < d) (hcs : csOk cs ad) (hS : csS cs σ b) (hR : σ (b + 9) = some (.inr (.inl (5, [.ref (b + 1), .ref (b + 3)])))) (hB : X_buf σ b txt p) (hT : ∀ c ∈ txt, cok c) (hp : p ≤ txt.length) (hb : b + 114 ≤ lo) (hlo : lo ≤ top) (hC : X_cat ad σ b lo dec pl da ea) (hO : catOk dec) (hr : ranked dec rk) (hA : decAt ad σ lo top a c (par.map da) ms ea') (hc : c < 10) (hms : ∀ M ∈ ms, memOk M) (hdist : distM ms) (hpar : ∀ p, par = some p → ∃ D, dec p = some D) (hl : ms.length < 6) :
    ∃ (σ' : am_H) (p' top' sl' : Nat), X_buf σ' b txt p' ∧ p' ≤ txt.length ∧ top ≤ top' ∧ top' ≤ top + 2 ∧ sl' ≤ sl + 9 ∧ (∀ x, x ≠ b + 1 → x < lo → σ' x = σ x) ∧ ((am_to cd_t cs d 38 0 (am_ent 4 [.ref (b + 9), .ref a]) [] σ top sl (.inl (some (.int (b2i false))), σ', top', sl') ∧ ∀ R, pMem txt p c = some R → okM dec par ms R.1 = false) ∨
      ∃ M, am_to cd_t cs d 38 0 (am_ent 4 [.ref (b + 9), .ref a]) [] σ top sl (.inl (some (.int (b2i true))), σ', top', sl') ∧ pMem txt p c = some (M, p') ∧ okM dec par ms M = true ∧ decAt ad σ' lo top' a c (par.map da) (ms ++ [M]) (upN ea' ms.length top)) := by
  obtain ⟨kk, hk0, hk1, -, -, hkk⟩ := id hS
  obtain ⟨s1, a1, a2, a3⟩ := x_takeText (cs := cs) (d := d - 1) (top := top) (sl := sl) (by omega) hcs (hkk σ (fun _ _ => rfl)).1 hB hT hp
  have hpl : (if pre txt p wPrivate = true then p + 8 else p) ≤ txt.length := by
    split
    · next hh => exact pre_len wPrivate p hp (by decide) hh
    · exact hp
  obtain ⟨p1, hp1⟩ : ∃ z, z = (if pre txt p wPrivate = true then p + 8 else p) := ⟨_, rfl⟩
  replace a2 : X_buf s1 b txt p1 := by rw [hp1]; exact a2
  rw [← hp1] at hpl
  have eN : pMem txt p c = pMem2 txt p1 c (pre txt p wPrivate) := by unfold pMem; rw [← hp1]
  have hMok : ∀ R, pMem txt p c = some R → memOk R.1 := fun R h => (pMem_some hc h).1
  rw [eN] at hMok ⊢
  obtain ⟨pr, hpr⟩ : ∃ z, z = pre txt p wPrivate := ⟨_, rfl⟩
  rw [← hpr] at a1 hMok ⊢
  obtain ⟨s2, b1, b2, b3⟩ := x_takeText (cs := cs) (d := d - 1) (top := top) (sl := sl) (by omega) hcs (hkk s1 (fun q hq => a3 q (by omega))).2.1 a2 hT hpl
  have f2 : ∀ x, x ≠ b + 1 → s2 x = σ x := fun x h1 => (b3 x h1).trans (a3 x h1)
  have r2 := (f2 (b + 9) (by omega)).trans hR
  have S2 : csS cs s2 b := hS.kept (fun q hq => f2 q (by omega))
  obtain ⟨q1, q2, qr, qg, q3, q4, q5, q6, q7, q8⟩ := id hA
  have q5' := (f2 a (by omega)).trans q5
  have go : ∀ res, am_to cd_t cs d 38 19 [some (.ref (b + 9)), some (.ref a), some (.int (b2i pr)), none] [.int (b2i (pre txt p1 wNewP))] s2 top sl res → am_to cd_t cs d 38 0 (am_ent 4 [.ref (b + 9), .ref a]) [] σ top sl res := by
    intro res hh
    have r1 := (a3 (b + 9) (by omega)).trans hR
    refine x_n cd_i38_0 rfl rfl ?_
    refine x_getf cd_i38_1 (by assumption) rfl rfl ?_
    show am_to cd_t _ _ 38 4 _ _ _ _ _ _
    refine x_n cd_i38_4 rfl rfl ?_
    rw [hk0]
    refine x_callv (as' := [.ref (kk 0)]) cd_i38_6 hB.1 (by omega) rfl rfl rfl rfl rfl rfl a1 ?_
    refine x_n cd_i38_9 rfl rfl ?_
    try dsimp only [List.set]
    refine x_n cd_i38_10 rfl rfl ?_
    refine x_getf cd_i38_11 (by assumption) rfl rfl ?_
    show am_to cd_t _ _ 38 14 _ _ _ _ _ _
    refine x_n cd_i38_14 rfl rfl ?_
    rw [hk1]
    refine x_callv (as' := [.ref (kk 1)]) cd_i38_16 a2.1 (by omega) rfl rfl rfl rfl rfl rfl b1 ?_
    exact hh
  have fin : ∀ (s3 : am_H) (p' : Nat) (r : Option Nat) (top' sl' : Nat), (∀ res, am_to cd_t cs d 38 39 [some (.ref (b + 9)), some (.ref a), some (.int (b2i pr)), none] [va_rf r] s3 top' sl' res → am_to cd_t cs d 38 0 (am_ent 4 [.ref (b + 9), .ref a]) [] σ top sl res) → X_buf s3 b txt p' → p' ≤ txt.length → top ≤ top' → top' ≤ top + 2 → sl' ≤ sl + 9 → (∀ x, x ≠ b + 1 → x < top → s3 x = s2 x) → ((r = none ∧ pMem2 txt p1 c pr = none) ∨ ∃ R, pMem2 txt p1 c pr = some R ∧ r = some top ∧ R.2 = p' ∧ memAt ad s3 top top' top R.1) →
    ∃ (σ' : am_H) (p' top' sl' : Nat), X_buf σ' b txt p' ∧ p' ≤ txt.length ∧ top ≤ top' ∧ top' ≤ top + 2 ∧ sl' ≤ sl + 9 ∧ (∀ x, x ≠ b + 1 → x < lo → σ' x = σ x) ∧ ((am_to cd_t cs d 38 0 (am_ent 4 [.ref (b + 9), .ref a]) [] σ top sl (.inl (some (.int (b2i false))), σ', top', sl') ∧ ∀ R, pMem2 txt p1 c pr = some R → okM dec par ms R.1 = false) ∨
      ∃ M, am_to cd_t cs d 38 0 (am_ent 4 [.ref (b + 9), .ref a]) [] σ top sl (.inl (some (.int (b2i true))), σ', top', sl') ∧ pMem2 txt p1 c pr = some (M, p') ∧ okM dec par ms M = true ∧ decAt ad σ' lo top' a c (par.map da) (ms ++ [M]) (upN ea' ms.length top)) := by
    intro s3 p' r top' sl' hgo h1 h2 h3 h4 h5 h6 h7
    have f3 : ∀ x, x ≠ b + 1 → x < top → s3 x = σ x := fun x g1 g2 => (h6 x g1 g2).trans (f2 x g1)
    have C3 : X_cat ad s3 b lo dec pl da ea := hC.kept (f3 _ (by omega) (by omega)) (f3 _ (by omega) (by omega)) (f3 _ (by omega) (by omega)) (fun q g1 g2 => f3 q (by omega) (by omega)) (Nat.le_refl _)
    have A3 : decAt ad s3 lo top' a c (par.map da) ms ea' := hA.kept (fun q g1 g2 => f3 q (by omega) g2) h3
    obtain ⟨s4, k1, k2⟩ := x_member_tail (cs := cs) (d := d) (top := top) (sl' := sl') (v2 := some (.int (b2i pr))) (by omega) hcs C3 hO hr A3 hms hdist hpar hl hlo h7 hMok
    refine ⟨s4, p', top', sl', h1.kept (k1 _ (by omega)) (k1 _ (by omega)), h2, h3, h4, h5, fun x g1 g2 => (k1 x g2).trans (f3 x g1 (by omega)), ?_⟩
    rcases k2 with ⟨l1, l2⟩ | ⟨M, l1, l2, l3, l4⟩
    · exact Or.inl ⟨hgo _ l1, l2⟩
    · exact Or.inr ⟨M, hgo _ l1, l2, l3, l4⟩
  unfold pMem2 at fin hMok ⊢
  cases hn : pre txt p1 wNewP with
  | true =>
    rw [hn] at go b2 fin
    have hl4 := pre_len wNewP p1 hpl (by decide) hn
    have b2 : X_buf s2 b txt (p1 + 4) := b2
    rw [if_pos rfl] at fin ⊢
    obtain ⟨s3, p', r, c1, c2, c3, c4, c5⟩ := x_maker (cs := cs) (d := d - 1) (top := top) (sl := sl) (c := c) (pr := pr) (by omega) hcs r2 b2 hT hl4 (by omega)
    refine fin s3 p' r (top + 2) (sl + 9) (fun res hh => go res ?_) c2 c3 (by omega) (by omega) (by omega) c4 c5
    refine x_if_f cd_i38_19 (fun z => absurd (show (1 : Int32) = 0 from z) (by decide)) ?_
    refine x_n cd_i38_22 rfl rfl ?_
    refine x_n cd_i38_23 rfl rfl ?_
    refine x_n cd_i38_24 rfl rfl ?_
    refine x_getf cd_i38_25 (by assumption) rfl rfl ?_
    show am_to cd_t _ _ 38 28 _ _ _ _ _ _
    refine x_callv (as' := [.int (b2i pr), .int (ii c)]) cd_i38_28 r2 (by omega) rfl rfl rfl rfl rfl rfl c1 ?_
    refine x_n cd_i38_31 rfl rfl ?_
    show am_to cd_t _ _ 38 39 _ _ _ _ _ _
    exact hh
  | false =>
    rw [hn] at go b2 fin
    have b2 : X_buf s2 b txt p1 := b2
    rw [if_neg (by decide)] at fin ⊢
    obtain ⟨s3, p', r, top', sl', c1, c2, c3, c4, c5, c6, c7, c8⟩ := x_named (cs := cs) (d := d - 1) (top := top) (sl := sl) (pr := pr) (by omega) hcs S2 r2 b2 hT hpl (by omega)
    refine fin s3 p' r top' sl' (fun res hh => go res ?_) c2 c3 c4 c5 c6 c7 c8
    refine x_if_t cd_i38_19 rfl ?_
    refine x_n cd_i38_34 rfl rfl ?_
    refine x_n cd_i38_35 rfl rfl ?_
    show am_to cd_t _ _ 38 36 _ _ _ _ _ _
    refine x_callv (as' := [.int (b2i pr)]) cd_i38_36 r2 (by omega) rfl rfl rfl rfl rfl rfl c1 ?_
    exact hh
end RMS
