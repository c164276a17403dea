/-! expressions -/
def ownL (dec : Nat → Option Dec) (pl : Int32) (c k : Nat) (w : List Nat) : Option (Nat × Nat) := ((memsOf dec c).findIdx? (fun M => isNm k w M && usB pl c M)).map (fun j => (c, j))
def staL (dec : Nat → Option Dec) (pl : Int32) (c k : Nat) (w : List Nat) : Option (Nat × Nat) := ((memsOf dec c).findIdx? (fun M => isNm k w M && (usB pl c M && M.2.2.1))).map (fun j => (c, j))
def memQ (dec : Nat → Option Dec) (q : Nat × Nat) : Mem := (memsOf dec q.1).getD q.2 default
/-- type, place behind, cost -/
abbrev ERes : Type := Option (Nat × Nat × Nat)
section EP
variable (dec : Nat → Option Dec) (pl : Int32) (vs : List (List Nat × Nat)) (txt : List Nat)
def argsP (E : Nat → ERes) : List Nat → Bool → Nat → Option (Nat × Nat)
  | [], _, q => if txt.getD q 0 = 41 then some (q + 1, 0) else none
  | w :: ts, f, q => if f = true ∨ txt.getD q 0 = 44 then (match E (if f = true then q else q + 1) with
      | none => none
      | some R => if fitB dec R.1 w = true then (argsP E ts false R.2.1).map (fun S => (S.1, R.2.2 + S.2)) else none) else none
def useP (E : Nat → ERes) (o : Option (Nat × Nat)) (q : Nat) : ERes := match o with
  | none => none
  | some x => if (memQ dec x).1 = 0 then some ((memQ dec x).2.2.2.2.2, q, 1) else if txt.getD q 0 = 40 then (argsP dec txt E (memQ dec x).2.2.2.2.1 true (q + 1)).map (fun S => ((memQ dec x).2.2.2.2.2, S.1, 1 + S.2)) else none
def kA (q : Nat) : Nat := if txt.getD q 0 = 40 then 1 else 0
def selP (E : Nat → ERes) (t p : Nat) : ERes := match tkN txt p with
  | none => none
  | some w => useP dec txt E (fsO dec pl (kA txt (p + (wl txt p).length)) w (if 3 ≤ t then some (t - 3) else none)) (p + (wl txt p).length)
def headP (E : Nat → ERes) (p : Nat) : ERes := if pre txt p wNewS = true then (match (tkC txt (p + 4)).1 with
    | none => none
    | some c => useP dec txt E (ownL dec pl c 2 []) (p + 5))
  else match (tkC txt p).1 with
    | none => (match tkN txt p with
      | none => none
      | some w => (varT vs w).map (fun t => (t, p + (wl txt p).length, 0)))
    | some c => if txt.getD (p + 1) 0 = 46 then (match tkN txt (p + 2) with
      | none => none
      | some w => useP dec txt E (staL dec pl c (kA txt (p + 2 + (wl txt (p + 2)).length)) w) (p + 2 + (wl txt (p + 2)).length)) else none
def selsP (E : Nat → ERes) : Nat → Nat → Nat → Nat → ERes
  | 0, t, q, k => some (t, q, k)
  | f + 1, t, q, k => if txt.getD q 0 = 46 then (match selP dec pl txt E t (q + 1) with
    | none => none
    | some R => selsP E f R.1 R.2.1 (k + R.2.2)) else some (t, q, k)
def exprP : Nat → Nat → ERes
  | 0, _ => none
  | n + 1, p => match headP dec pl vs txt (exprP n) p with
    | none => none
    | some R => selsP dec pl txt (exprP n) 120 R.1 R.2.1 R.2.2
end EP
/-- the desk's reader of expressions, with its cost -/
abbrev X_er (σ : am_H) (b k : Nat) : Prop := σ (b + 10) = some (.inr (.inl (6, [.ref (b + 1), .ref (b + 3), .ref (b + 6), .int (ii k)])))
section EX
variable {cs : Nat → Value} {d b top sl : Nat} {σ : am_H} {ad : Nat → Nat} {hi : Nat} {dec : Nat → Option Dec} {pl : Int32} {da : Nat → Nat} {ea : Nat → Nat → Nat} {rk : Nat → Nat} {vs : List (List Nat × Nat)} {txt : List Nat}
def envX (cs : Nat → Value) (ad : Nat → Nat) (b hi : Nat) (dec : Nat → Option Dec) (pl : Int32) (da : Nat → Nat) (ea : Nat → Nat → Nat) (vs : List (List Nat × Nat)) (σ : am_H) : Prop := csS cs σ b ∧ X_cat ad σ b hi dec pl da ea ∧ X_sco σ b vs
theorem envX.kept {σ' : am_H} (h : envX cs ad b hi dec pl da ea vs σ) (hq : ∀ x, x ≠ b + 1 → x ≠ b + 10 → σ' x = σ x) : envX cs ad b hi dec pl da ea vs σ' :=
  ⟨h.1.kept (fun q hq' => hq q (by omega) (by omega)), h.2.1.kept (hq _ (by omega) (by omega)) (hq _ (by omega) (by omega)) (hq _ (by omega) (by omega)) (fun q g1 g2 => hq q (by omega) (by omega)) (Nat.le_refl _), h.2.2.kept (fun q h1 h2 => hq q (by omega) (by omega))⟩
theorem find_eq0 {ms : List Mem} {k : Nat} {w : List Nat} {Q : Mem → Bool} (h : ∀ j, j < ms.length → isNm k w (ms.getD j default) = false) : ms.findIdx? (fun M => isNm k w M && Q M) = none := by
  rw [find_none]
  intro j hj
  rw [h j hj, Bool.false_and]
theorem x_findOwn {c : Int32} {o : Option Nat} {k : Nat} {w : List Nat} (hd : 1 < d) (hcs : csOk cs ad) (hC : X_cat ad σ b hi dec pl da ea) (hO : catOk dec) (hr : ranked dec rk) (hk : k < 3) (hw : nameOk w) (ho : (o = none ∧ c = -1) ∨ ∃ n, o = some n ∧ n < 10 ∧ c = ii n) :
    am_to cd_t cs d 92 0 (am_ent 6 [.ref (b + 3), .int c, .ref (ad k), .int (ii (n256 w))]) [] σ top sl (.inl (some (va_rf ((o.bind fun n => ownL dec pl n k w).map fun q => ea q.1 q.2))), σ, top, sl) := by
  have hoi : c = oi o := by
    rcases ho with ⟨h1, h2⟩ | ⟨n, h1, h2, h3⟩
    · rw [h1, h2]; rfl
    · rw [h1, h3]; rfl
  have h := x_declO (cs := cs) (d := d - 1) (top := top) (sl := sl) (o := o) hC (fun q hq => by
    rcases ho with ⟨h1, h2⟩ | ⟨n, h1, h2, h3⟩
    · rw [h1] at hq; cases hq
    · rw [h1] at hq; rw [← Option.some.inj hq]; exact h2)
  rw [← hoi] at h
  have nul : (o.bind fun q => (dec q).map fun _ => da q) = none → (o.bind fun n => ownL dec pl n k w) = none → am_to cd_t cs d 92 0 (am_ent 6 [.ref (b + 3), .int c, .ref (ad k), .int (ii (n256 w))]) [] σ top sl (.inl (some (va_rf ((o.bind fun n => ownL dec pl n k w).map fun q => ea q.1 q.2))), σ, top, sl) := by
    intro h1 h2
    rw [h1] at h
    rw [h2]
    refine x_n cd_i92_0 rfl rfl ?_
    refine x_n cd_i92_1 rfl rfl ?_
    show am_to cd_t _ _ 92 2 _ _ _ _ _ _
    refine x_callv (as' := [.int c]) cd_i92_2 hC.1 (by omega) rfl rfl rfl rfl rfl rfl h ?_
    refine x_n cd_i92_5 rfl rfl ?_
    try dsimp only [List.set]
    refine x_n cd_i92_7 rfl rfl ?_
    show am_to cd_t _ _ 92 9 _ _ _ _ _ _
    refine x_nn_f cd_i92_9 ?_
    refine x_n cd_i92_12 rfl rfl ?_
    show am_to cd_t _ _ 92 13 _ _ _ _ _ _
    exact x_end cd_i92_13 rfl rfl rfl
  cases o with
  | none => exact nul rfl rfl
  | some n =>
    cases hD : dec n with
    | none =>
      refine nul (by show (dec n).map (fun _ => da n) = none; rw [hD]; rfl) ?_
      show ownL dec pl n k w = none
      unfold ownL memsOf
      rw [hD]
      rfl
    | some D =>
      have hn := (hr n D hD).1
      have hDA := hC.2.2.1 n D hn hD
      obtain ⟨o1, o2, o3⟩ := hO n D hD
      obtain ⟨r, k1, k2⟩ := x_find (cs := cs) (d := d - 1) (top := top) (sl := sl) (k := k) (w := w) (by omega) hcs hDA o2 hk hw
      obtain ⟨q1, q2, qr, qg, q3, q4, q5, q6, q7, q8⟩ := id hDA
      have emem : memsOf dec n = D.2 := by unfold memsOf; rw [hD]
      have h' : am_to cd_t cs (d - 1) 22 0 (am_ent 2 [.ref (b + 3), .int c]) [] σ top sl (.inl (some (va_rf ((dec n).map fun _ => da n))), σ, top, sl) := h
      rw [hD] at h'
      show am_to cd_t cs d 92 0 _ [] σ top sl (.inl (some (va_rf ((ownL dec pl n k w).map fun q => ea q.1 q.2))), σ, top, sl)
      have go1 : ∀ res, am_to cd_t cs d 92 25 [some (.ref (b + 3)), some (.int c), some (.ref (ad k)), some (.int (ii (n256 w))), some (.ref (da n)), some (va_rf (r.map (ea n)))] [va_rf (r.map (ea n))] σ top sl res → am_to cd_t cs d 92 0 (am_ent 6 [.ref (b + 3), .int c, .ref (ad k), .int (ii (n256 w))]) [] σ top sl res := by
        intro res hh
        refine x_n cd_i92_0 rfl rfl ?_
        refine x_n cd_i92_1 rfl rfl ?_
        show am_to cd_t _ _ 92 2 _ _ _ _ _ _
        refine x_callv (as' := [.int c]) cd_i92_2 hC.1 (by omega) rfl rfl rfl rfl rfl rfl h' ?_
        refine x_n cd_i92_5 rfl rfl ?_
        try dsimp only [List.set]
        refine x_n cd_i92_7 rfl rfl ?_
        show am_to cd_t _ _ 92 9 _ _ _ _ _ _
        refine x_nn_t cd_i92_9 ?_
        refine x_n cd_i92_14 rfl rfl ?_
        refine x_n cd_i92_16 rfl rfl ?_
        refine x_n cd_i92_17 rfl rfl ?_
        show am_to cd_t _ _ 92 18 _ _ _ _ _ _
        refine x_callv (as' := [.ref (ad k), .int (ii (n256 w))]) cd_i92_18 q5 (by omega) rfl rfl rfl rfl rfl rfl k2 ?_
        cases r with
        | none =>
          refine x_n cd_i92_21 rfl rfl ?_
          try dsimp only [List.set]
          refine x_n cd_i92_23 rfl rfl ?_
          show am_to cd_t _ _ 92 25 _ _ _ _ _ _
          exact hh
        | some j =>
          refine x_n cd_i92_21 rfl rfl ?_
          try dsimp only [List.set]
          refine x_n cd_i92_23 rfl rfl ?_
          show am_to cd_t _ _ 92 25 _ _ _ _ _ _
          exact hh
      unfold ownL
      rw [emem]
      cases r with
      | none =>
        rw [find_eq0 k1]
        refine go1 _ (x_null_t cd_i92_25 ?_)
        refine x_n cd_i92_44 rfl rfl ?_
        show am_to cd_t _ _ 92 45 _ _ _ _ _ _
        exact x_end cd_i92_45 rfl rfl rfl
      | some j =>
        have j1 := k1.1
        have j2 := k1.2.1
        have g2 := (q8 j j1).2
        rw [find_eq (Q := usB pl n) o3 j1 j2]
        have hus := x_usable (cs := cs) (d := d - 1) (top := top) (sl := sl) hC hDA g2
        refine go1 _ (x_null_f cd_i92_25 ?_)
        refine x_n cd_i92_28 rfl rfl ?_
        refine x_n cd_i92_29 rfl rfl ?_
        refine x_n cd_i92_31 rfl rfl ?_
        show am_to cd_t _ _ 92 33 _ _ _ _ _ _
        refine x_callv (as' := [.ref (da n), .ref (ea n j)]) cd_i92_33 hC.1 (by omega) rfl rfl rfl rfl rfl rfl hus ?_
        cases hu : usB pl n (D.2.getD j default) with
        | true =>
          rw [if_pos rfl]
          refine x_if_f cd_i92_36 (fun z => absurd (show (1 : Int32) = 0 from z) (by decide)) ?_
          refine x_n cd_i92_39 rfl rfl ?_
          refine x_n cd_i92_41 rfl rfl ?_
          show am_to cd_t _ _ 92 45 _ _ _ _ _ _
          exact x_end cd_i92_45 rfl rfl rfl
        | false =>
          rw [if_neg (by decide)]
          refine x_if_t cd_i92_36 rfl ?_
          refine x_n cd_i92_44 rfl rfl ?_
          show am_to cd_t _ _ 92 45 _ _ _ _ _ _
          exact x_end cd_i92_45 rfl rfl rfl
theorem x_findMaker {c : Int32} {o : Option Nat} (hd : 2 < d) (hcs : csOk cs ad) (hC : X_cat ad σ b hi dec pl da ea) (hO : catOk dec) (hr : ranked dec rk) (ho : (o = none ∧ c = -1) ∨ ∃ n, o = some n ∧ n < 10 ∧ c = ii n) :
    am_to cd_t cs d 91 0 (am_ent 2 [.ref (b + 3), .int c]) [] σ top sl (.inl (some (va_rf ((o.bind fun n => ownL dec pl n 2 []).map fun q => ea q.1 q.2))), σ, top, sl) := by
  have h := x_findOwn (cs := cs) (d := d - 1) (top := top) (sl := sl) (k := 2) (w := []) (by omega) hcs hC hO hr (by decide) ⟨(fun c hc => by cases hc), by decide⟩ ho
  refine x_n cd_i91_0 rfl rfl ?_
  refine x_n cd_i91_1 rfl rfl ?_
  show am_to cd_t _ _ 91 2 _ _ _ _ _ _
  refine x_n cd_i91_2 rfl rfl ?_
  rw [hcs.2.2.1]
  refine x_ic cd_i91_5 (z := ii 0) rfl ?_
  show am_to cd_t _ _ 91 6 _ _ _ _ _ _
  refine x_callv (as' := [.int c, .ref (ad 2), .int (ii 0)]) cd_i91_6 hC.1 (by omega) rfl rfl rfl rfl rfl rfl h ?_
  cases (o.bind fun n => ownL dec pl n 2 []) <;> exact x_end cd_i91_9 rfl rfl rfl
theorem own_in {c k x j : Nat} {w : List Nat} (h : ownL dec pl c k w = some (x, j)) : x = c ∧ ∃ D, dec c = some D ∧ j < D.2.length ∧ isNm k w (D.2.getD j default) = true ∧ usB pl c (D.2.getD j default) = true := by
  unfold ownL at h
  obtain ⟨i, hi, e⟩ := Option.map_eq_some_iff.mp h
  obtain ⟨h1, h2⟩ := find_some hi
  rw [Bool.and_eq_true] at h2
  have e1 := (Prod.mk.inj e).1
  have e2 := (Prod.mk.inj e).2
  rw [e2] at h1 h2
  unfold memsOf at h1 h2
  cases hD : dec c with
  | none =>
    rw [hD] at h1
    exact absurd h1 (Nat.not_lt_zero _)
  | some D =>
    rw [hD] at h1 h2
    exact ⟨e1.symm, D, rfl, h1, h2.1, h2.2⟩
theorem sta_own {c k : Nat} {w : List Nat} (hO : catOk dec) : staL dec pl c k w = (match ownL dec pl c k w with | none => none | some q => if (memQ dec q).2.2.1 = true then some q else none) := by
  unfold staL ownL memQ
  cases hD : dec c with
  | none =>
    have emem : memsOf dec c = [] := by unfold memsOf; rw [hD]
    rw [emem]
    rfl
  | some D =>
    have emem : memsOf dec c = D.2 := by unfold memsOf; rw [hD]
    rw [emem]
    obtain ⟨o1, o2, o3⟩ := hO c D hD
    by_cases hex : ∃ j, j < D.2.length ∧ isNm k w (D.2.getD j default) = true
    · obtain ⟨j, j1, j2⟩ := hex
      rw [find_eq (Q := usB pl c) o3 j1 j2, find_eq (Q := fun M => usB pl c M && M.2.2.1) o3 j1 j2]
      cases usB pl c (D.2.getD j default) with
      | false => rfl
      | true =>
        rw [Bool.true_and]
        show _ = (if ((memsOf dec c).getD j default).2.2.1 = true then _ else _)
        rw [emem]
        cases (D.2.getD j default).2.2.1 <;> rfl
    · have hno : ∀ j, j < D.2.length → isNm k w (D.2.getD j default) = false := by
        intro j hj
        cases h : isNm k w (D.2.getD j default) with
        | false => rfl
        | true => exact absurd ⟨j, hj, h⟩ hex
      rw [find_eq0 hno, find_eq0 hno]
      rfl
theorem x_findStatic {c k : Nat} {w : List Nat} (hd : 2 < d) (hcs : csOk cs ad) (hC : X_cat ad σ b hi dec pl da ea) (hO : catOk dec) (hr : ranked dec rk) (hk : k < 3) (hw : nameOk w) (hc : c < 10) :
    am_to cd_t cs d 96 0 (am_ent 5 [.ref (b + 3), .int (ii c), .ref (ad k), .int (ii (n256 w))]) [] σ top sl (.inl (some (va_rf ((staL dec pl c k w).map fun q => ea q.1 q.2))), σ, top, sl) := by
  have h := x_findOwn (cs := cs) (d := d - 1) (top := top) (sl := sl) (k := k) (w := w) (c := ii c) (o := some c) (by omega) hcs hC hO hr hk hw (Or.inr ⟨c, rfl, hc, rfl⟩)
  have h : am_to cd_t cs (d - 1) 92 0 (am_ent 6 [.ref (b + 3), .int (ii c), .ref (ad k), .int (ii (n256 w))]) [] σ top sl (.inl (some (va_rf ((ownL dec pl c k w).map fun q => ea q.1 q.2))), σ, top, sl) := h
  rw [sta_own hO]
  have go : ∀ res, am_to cd_t cs d 96 11 [some (.ref (b + 3)), some (.int (ii c)), some (.ref (ad k)), some (.int (ii (n256 w))), some (va_rf ((ownL dec pl c k w).map fun q => ea q.1 q.2))] [va_rf ((ownL dec pl c k w).map fun q => ea q.1 q.2)] σ top sl res → am_to cd_t cs d 96 0 (am_ent 5 [.ref (b + 3), .int (ii c), .ref (ad k), .int (ii (n256 w))]) [] σ top sl res := by
    intro res hh
    refine x_n cd_i96_0 rfl rfl ?_
    refine x_n cd_i96_1 rfl rfl ?_
    refine x_n cd_i96_2 rfl rfl ?_
    refine x_n cd_i96_3 rfl rfl ?_
    show am_to cd_t _ _ 96 4 _ _ _ _ _ _
    refine x_callv (as' := [.int (ii c), .ref (ad k), .int (ii (n256 w))]) cd_i96_4 hC.1 (by omega) rfl rfl rfl rfl rfl rfl h ?_
    cases ho : ownL dec pl c k w with
    | none =>
      rw [ho] at hh
      refine x_n cd_i96_7 rfl rfl ?_
      try dsimp only [List.set]
      refine x_n cd_i96_9 rfl rfl ?_
      show am_to cd_t _ _ 96 11 _ _ _ _ _ _
      exact hh
    | some q =>
      rw [ho] at hh
      refine x_n cd_i96_7 rfl rfl ?_
      try dsimp only [List.set]
      refine x_n cd_i96_9 rfl rfl ?_
      show am_to cd_t _ _ 96 11 _ _ _ _ _ _
      exact hh
  refine go _ ?_
  cases ho : ownL dec pl c k w with
  | none =>
    refine x_null_t cd_i96_11 ?_
    refine x_n cd_i96_27 rfl rfl ?_
    show am_to cd_t _ _ 96 28 _ _ _ _ _ _
    exact x_end cd_i96_28 rfl rfl rfl
  | some q =>
    obtain ⟨x, j⟩ := q
    obtain ⟨e1, D, hD, hj, -, -⟩ := own_in ho
    subst e1
    obtain ⟨q1, q2, qr, qg, q3, q4, q5, q6, q7, q8⟩ := hC.2.2.1 x D hc hD
    obtain ⟨m1, m2, mp, mf, m3, m4, m5, m6, m7, m8⟩ := (q8 j hj).2
    have em : memQ dec (x, j) = D.2.getD j default := by unfold memQ memsOf; rw [hD]
    dsimp only
    rw [em]
    refine x_null_f cd_i96_11 ?_
    refine x_n cd_i96_14 rfl rfl ?_
    show am_to cd_t _ _ 96 16 _ _ _ _ _ _
    refine x_getf cd_i96_16 m5 rfl rfl ?_
    cases (D.2.getD j default).2.2.1 with
    | true =>
      refine x_if_f cd_i96_19 (fun z => absurd (show (1 : Int32) = 0 from z) (by decide)) ?_
      refine x_n cd_i96_22 rfl rfl ?_
      refine x_n cd_i96_24 rfl rfl ?_
      show am_to cd_t _ _ 96 28 _ _ _ _ _ _
      exact x_end cd_i96_28 rfl rfl rfl
    | false =>
      refine x_if_t cd_i96_19 rfl ?_
      refine x_n cd_i96_27 rfl rfl ?_
      show am_to cd_t _ _ 96 28 _ _ _ _ _ _
      exact x_end cd_i96_28 rfl rfl rfl
theorem x_kindAhead {q k : Nat} (hd : 0 < d) (hcs : csOk cs ad) (hE : X_er σ b k) (hB : X_buf σ b txt q) (hT : ∀ c ∈ txt, cok c) (hq : q ≤ txt.length) :
    am_to cd_t cs d 95 0 (am_ent 1 [.ref (b + 10)]) [] σ top sl (.inl (some (.ref (ad (kA txt q)))), σ, top, sl) := by
  have h := x_isAt (cs := cs) (d := d - 1) (top := top) (sl := sl) (c := 40) hB hT hq (by decide) (by decide)
  unfold kA
  refine x_n cd_i95_0 rfl rfl ?_
  refine x_getf cd_i95_1 (by assumption) rfl rfl ?_
  refine x_bi cd_i95_4 (z := ii 40) (by decide) ?_
  show am_to cd_t _ _ 95 6 _ _ _ _ _ _
  refine x_callv (as' := [.int (ii 40)]) cd_i95_6 hB.1 (by omega) rfl rfl rfl rfl rfl rfl h ?_
  by_cases hc : txt.getD q 0 = 40
  · rw [if_pos hc, if_pos hc]
    refine x_if_f cd_i95_9 (fun z => absurd (show (1 : Int32) = 0 from z) (by decide)) ?_
    refine x_n cd_i95_12 rfl rfl ?_
    rw [hcs.2.1]
    refine x_n cd_i95_15 rfl rfl ?_
    show am_to cd_t _ _ 95 21 _ _ _ _ _ _
    exact x_end cd_i95_21 rfl rfl rfl
  · rw [if_neg hc, if_neg hc]
    refine x_if_t cd_i95_9 rfl ?_
    refine x_n cd_i95_18 rfl rfl ?_
    rw [hcs.1]
    exact x_end cd_i95_21 rfl rfl rfl
end EX
