/-! what is seen of a class -/
def usB (pl : Int32) (x : Nat) (M : Mem) : Bool := !M.2.1 || pl == ii x
def bhB (pl : Int32) (x : Nat) (M : Mem) : Bool := !(M.1 == 2) && !M.2.2.1 && usB pl x M
/-- the first class of a list that has it, and its place there -/
def fsL (dec : Nat → Option Dec) (pl : Int32) (k : Nat) (w : List Nat) : List Nat → Option (Nat × Nat)
  | [] => none
  | x :: l => match (memsOf dec x).findIdx? (fun M => isNm k w M && bhB pl x M) with
    | some j => some (x, j)
    | none => fsL dec pl k w l
theorem find_none {ms : List Mem} {P : Mem → Bool} : ms.findIdx? P = none ↔ ∀ j, j < ms.length → P (ms.getD j default) = false := by
  rw [List.findIdx?_eq_none_iff]
  constructor
  · intro h j hj
    exact h _ (getD_mem hj)
  · intro h M hM
    obtain ⟨j, hj, e⟩ := List.getElem_of_mem hM
    have := h j hj
    rw [List.getD_eq_getElem?_getD, List.getElem?_eq_getElem hj] at this
    rw [← e]
    exact this
theorem find_some {ms : List Mem} {P : Mem → Bool} {j : Nat} (h : ms.findIdx? P = some j) : j < ms.length ∧ P (ms.getD j default) = true := by
  rw [List.findIdx?_eq_some_iff_getElem] at h
  obtain ⟨hj, h1, -⟩ := h
  refine ⟨hj, ?_⟩
  rw [List.getD_eq_getElem?_getD, List.getElem?_eq_getElem hj]
  exact h1
/-- by one that has the name it is found -/
theorem find_eq {ms : List Mem} {k j : Nat} {w : List Nat} {Q : Mem → Bool} (hd : distM ms) (hj : j < ms.length) (hn : isNm k w (ms.getD j default) = true) : ms.findIdx? (fun M => isNm k w M && Q M) = if Q (ms.getD j default) = true then some j else none := by
  have uni : ∀ i, i < ms.length → isNm k w (ms.getD i default) = true → i = j := by
    intro i hi h
    unfold isNm at h hn
    rw [Bool.and_eq_true, beq_iff_eq, beq_iff_eq] at h hn
    exact hd i j hi hj (by rw [h.1, hn.1]) (by rw [h.2, hn.2])
  cases hf : ms.findIdx? (fun M => isNm k w M && Q M) with
  | none =>
    have := find_none.mp hf j hj
    rw [hn, Bool.true_and] at this
    rw [if_neg (by rw [this]; decide)]
  | some i =>
    obtain ⟨h1, h2⟩ := find_some hf
    rw [Bool.and_eq_true] at h2
    have e := uni i h1 h2.1
    rw [e] at h2
    rw [if_pos h2.2, e]
def snB (dec : Nat → Option Dec) (pl : Int32) (c x j : Nat) : Bool := !(((memsOf dec x).getD j default).1 == 2) && (fsL dec pl ((memsOf dec x).getD j default).1 ((memsOf dec x).getD j default).2.2.2.1 (chain dec 11 c) == some (x, j))
def cF (P : Nat → Bool) : Nat → Nat → Nat
  | _, 0 => 0
  | j, n + 1 => (if P j = true then 1 else 0) + cF P (j + 1) n
section SE
variable {cs : Nat → Value} {d b top sl : Nat} {σ : am_H} {ad : Nat → Nat} {hi : Nat} {dec : Nat → Option Dec} {pl : Int32} {da : Nat → Nat} {ea : Nat → Nat → Nat} {rk : Nat → Nat}
theorem x_usable {a e c lo hh lo' hi' : Nat} {par : Option Nat} {ms : List Mem} {ea' : Nat → Nat} {M : Mem} (hC : X_cat ad σ b hi dec pl da ea) (hA : decAt ad σ lo hh a c par ms ea') (hE : memAt ad σ lo' hi' e M) :
    am_to cd_t cs d 30 0 (am_ent 3 [.ref (b + 3), .ref a, .ref e]) [] σ top sl (.inl (some (.int (b2i (usB pl c M)))), σ, top, sl) := by
  obtain ⟨q1, q2, qr, qg, q3, q4, q5, q6, q7, q8⟩ := hA
  obtain ⟨m1, m2, mp, mf, m3, m4, m5, m6, m7, m8⟩ := hE
  have g1 := hC.1
  unfold usB
  refine x_n cd_i30_0 rfl rfl ?_
  refine x_getf cd_i30_1 (by assumption) rfl rfl ?_
  show am_to cd_t _ _ 30 4 _ _ _ _ _ _
  cases hp : M.2.1 with
  | false =>
    refine x_if_t cd_i30_4 rfl ?_
    refine x_ic cd_i30_18 (z := ii 1) rfl ?_
    refine x_n cd_i30_19 rfl rfl ?_
    show am_to cd_t _ _ 30 23 _ _ _ _ _ _
    exact x_end cd_i30_23 rfl rfl rfl
  | true =>
    refine x_if_f cd_i30_4 (fun z => absurd (show (1 : Int32) = 0 from z) (by decide)) ?_
    refine x_n cd_i30_7 rfl rfl ?_
    refine x_getf cd_i30_8 (by assumption) rfl rfl ?_
    refine x_n cd_i30_11 rfl rfl ?_
    refine x_getf cd_i30_12 (by assumption) rfl rfl ?_
    show am_to cd_t _ _ 30 15 _ _ _ _ _ _
    refine x_icmp cd_i30_15 (fun z => ?_) (fun z => ?_)
    · have : (pl == ii c) = false := beq_eq_false_iff_ne.mpr (fun w => z w.symm)
      rw [this]
      refine x_ic cd_i30_22 (z := ii 0) rfl ?_
      show am_to cd_t _ _ 30 23 _ _ _ _ _ _
      exact x_end cd_i30_23 rfl rfl rfl
    · have z : ii c = pl := Decidable.not_not.mp z
      rw [beq_iff_eq.mpr z.symm]
      refine x_ic cd_i30_18 (z := ii 1) rfl ?_
      refine x_n cd_i30_19 rfl rfl ?_
      show am_to cd_t _ _ 30 23 _ _ _ _ _ _
      exact x_end cd_i30_23 rfl rfl rfl
theorem x_fs_loop {k : Nat} {w : List Nat} {v1 : Option Value} (hd : 1 < d) (hcs : csOk cs ad) (hC : X_cat ad σ b hi dec pl da ea) (hO : catOk dec) (hr : ranked dec rk) (hk : k < 2) (hw : nameOk w) :
    ∀ (n x : Nat) (D : Dec) (v5 : Option Value), deep dec n x → dec x = some D → am_to cd_t cs d 27 7 [some (.ref (b + 3)), v1, some (.ref (ad k)), some (.int (ii (n256 w))), some (.ref (da x)), v5] [] σ top sl (.inl (some (va_rf ((fsL dec pl k w (chain dec n x)).map fun q => ea q.1 q.2))), σ, top, sl)
  | 0, x, D, v5, h, _ => absurd h id
  | n + 1, x, D, v5, ⟨hx, hdeep⟩, hD => by
    have hDA := hC.2.2.1 x D hx hD
    obtain ⟨o1, o2, o3⟩ := hO x D hD
    obtain ⟨r, k1, k2⟩ := x_find (cs := cs) (d := d - 1) (top := top) (sl := sl) (k := k) (w := w) (by omega) hcs hDA o2 (by omega) hw
    obtain ⟨q1, q2, qr, qg, q3, q4, q5, q6, q7, q8⟩ := id hDA
    have ech : chain dec (n + 1) x = x :: (match D.1 with | none => [] | some p => chain dec n p) := by
      rw [chain_succ]
      unfold abv
      rw [hD]
      rfl
    have emem : memsOf dec x = D.2 := by unfold memsOf; rw [hD]
    have go1 : ∀ res, am_to cd_t cs d 27 23 [some (.ref (b + 3)), v1, some (.ref (ad k)), some (.int (ii (n256 w))), some (.ref (da x)), some (va_rf (r.map (ea x)))] [va_rf (r.map (ea x))] σ top sl res → am_to cd_t cs d 27 7 [some (.ref (b + 3)), v1, some (.ref (ad k)), some (.int (ii (n256 w))), some (.ref (da x)), v5] [] σ top sl res := by
      intro res hh
      refine x_n cd_i27_7 rfl rfl ?_
      show am_to cd_t _ _ 27 9 _ _ _ _ _ _
      refine x_null_f cd_i27_9 ?_
      refine x_n cd_i27_12 rfl rfl ?_
      refine x_n cd_i27_14 rfl rfl ?_
      refine x_n cd_i27_15 rfl rfl ?_
      show am_to cd_t _ _ 27 16 _ _ _ _ _ _
      refine x_callv (as' := [.ref (ad k), .int (ii (n256 w))]) cd_i27_16 q5 (by omega) rfl rfl rfl rfl rfl rfl k2 ?_
      cases r with
      | none =>
        refine x_n cd_i27_19 rfl rfl ?_
        try dsimp only [List.set]
        refine x_n cd_i27_21 rfl rfl ?_
        show am_to cd_t _ _ 27 23 _ _ _ _ _ _
        exact hh
      | some j =>
        refine x_n cd_i27_19 rfl rfl ?_
        try dsimp only [List.set]
        refine x_n cd_i27_21 rfl rfl ?_
        show am_to cd_t _ _ 27 23 _ _ _ _ _ _
        exact hh
    have next : (memsOf dec x).findIdx? (fun M => isNm k w M && bhB pl x M) = none → ∀ v5', am_to cd_t cs d 27 48 [some (.ref (b + 3)), v1, some (.ref (ad k)), some (.int (ii (n256 w))), some (.ref (da x)), v5'] [] σ top sl (.inl (some (va_rf ((fsL dec pl k w (chain dec (n + 1) x)).map fun q => ea q.1 q.2))), σ, top, sl) := by
      intro hn v5'
      rw [ech, fsL, hn]
      dsimp only
      cases hp : D.1 with
      | none =>
        rw [hp] at q5
        refine x_n cd_i27_48 rfl rfl ?_
        show am_to cd_t _ _ 27 50 _ _ _ _ _ _
        refine x_getf cd_i27_50 q5 rfl rfl ?_
        refine x_n cd_i27_53 rfl rfl ?_
        try dsimp only [List.set]
        refine x_n cd_i27_55 rfl rfl ?_
        refine x_n cd_i27_7 rfl rfl ?_
        show am_to cd_t _ _ 27 9 _ _ _ _ _ _
        refine x_null_t cd_i27_9 ?_
        refine x_n cd_i27_58 rfl rfl ?_
        show am_to cd_t _ _ 27 59 _ _ _ _ _ _
        exact x_end cd_i27_59 rfl rfl rfl
      | some p =>
        rw [hp] at q5
        obtain ⟨D', hD'⟩ := ((hr x D hD).2.2 p hp).2.1
        refine x_n cd_i27_48 rfl rfl ?_
        show am_to cd_t _ _ 27 50 _ _ _ _ _ _
        refine x_getf cd_i27_50 q5 rfl rfl ?_
        refine x_n cd_i27_53 rfl rfl ?_
        try dsimp only [List.set]
        refine x_n cd_i27_55 rfl rfl ?_
        show am_to cd_t _ _ 27 7 _ _ _ _ _ _
        exact x_fs_loop hd hcs hC hO hr hk hw n p D' v5' (hdeep D p hD hp) hD'
    cases r with
    | none =>
      refine go1 _ (x_null_t cd_i27_23 (next ?_ _))
      rw [emem, find_none]
      intro j hj
      rw [k1 j hj, Bool.false_and]
    | some j =>
      have j1 := k1.1
      have j2 := k1.2.1
      have g2 := (q8 j j1).2
      have hf := find_eq (Q := bhB pl x) o3 j1 j2
      rw [← emem] at hf
      have hus := x_usable (cs := cs) (d := d - 1) (top := top) (sl := sl) hC hDA g2
      have hkn : ((D.2.getD j default).1 == 2) = false := by
        unfold isNm at j2
        rw [Bool.and_eq_true, beq_iff_eq] at j2
        rw [j2.1]
        exact beq_eq_false_iff_ne.mpr (by omega)
      have ebh : bhB pl x ((memsOf dec x).getD j default) = (!(D.2.getD j default).2.2.1 && usB pl x (D.2.getD j default)) := by
        unfold bhB
        rw [emem, hkn]
        rfl
      rw [ebh] at hf
      generalize D.2.getD j default = N at g2 hf hus
      obtain ⟨n1, n2, np, nf, n3, n4, n5, n6, n7, n8⟩ := id g2
      refine go1 _ (x_null_f cd_i27_23 ?_)
      refine x_n cd_i27_26 rfl rfl ?_
      refine x_getf cd_i27_28 (by assumption) rfl rfl ?_
      show am_to cd_t _ _ 27 31 _ _ _ _ _ _
      cases hs : N.2.2.1 with
      | true =>
        rw [hs] at hf
        refine x_if_t cd_i27_31 (fun z => absurd (show (1 : Int32) = 0 from z) (by decide)) ?_
        exact next hf _
      | false =>
        rw [hs] at hf
        refine x_if_f cd_i27_31 (fun z => z rfl) ?_
        refine x_n cd_i27_34 rfl rfl ?_
        refine x_n cd_i27_35 rfl rfl ?_
        refine x_n cd_i27_37 rfl rfl ?_
        show am_to cd_t _ _ 27 39 _ _ _ _ _ _
        refine x_callv (as' := [.ref (da x), .ref (ea x j)]) cd_i27_39 hC.1 (by omega) rfl rfl rfl rfl rfl rfl hus ?_
        cases hu : usB pl x N with
        | true =>
          rw [hu] at hf
          refine x_if_f cd_i27_42 (fun z => absurd (show (1 : Int32) = 0 from z) (by decide)) ?_
          rw [ech, fsL, hf]
          refine x_n cd_i27_45 rfl rfl ?_
          show am_to cd_t _ _ 27 47 _ _ _ _ _ _
          exact x_end cd_i27_47 rfl rfl rfl
        | false =>
          rw [hu] at hf
          refine x_if_t cd_i27_42 rfl ?_
          exact next hf _
/-- what is seen of a class that a number may name -/
def fsO (dec : Nat → Option Dec) (pl : Int32) (k : Nat) (w : List Nat) (o : Option Nat) : Option (Nat × Nat) := match o with
  | none => none
  | some c => fsL dec pl k w (chain dec 11 c)
theorem fsL_none {k c : Nat} {w : List Nat} (h : dec c = none) : fsL dec pl k w (chain dec 11 c) = none := by
  have : chain dec 11 c = [c] := by
    rw [chain_succ]
    unfold abv
    rw [h]
    rfl
  rw [this, fsL]
  have : memsOf dec c = [] := by unfold memsOf; rw [h]
  rw [this]
  rfl
theorem x_findSeen {k : Nat} {w : List Nat} {c : Int32} {o : Option Nat} (hd : 1 < d) (hcs : csOk cs ad) (hC : X_cat ad σ b hi dec pl da ea) (hO : catOk dec) (hr : ranked dec rk) (hk : k < 2) (hw : nameOk w) (ho : (o = none ∧ c.toInt < 0) ∨ ∃ n, o = some n ∧ n < 10 ∧ c = ii n) :
    am_to cd_t cs d 27 0 (am_ent 6 [.ref (b + 3), .int c, .ref (ad k), .int (ii (n256 w))]) [] σ top sl (.inl (some (va_rf ((fsO dec pl k w o).map fun q => ea q.1 q.2))), σ, top, sl) := by
  have h := x_declared (cs := cs) (d := d - 1) (top := top) (sl := sl) (c := c) hC
  have nul : declM dec c = none → fsO dec pl k w o = none → am_to cd_t cs d 27 0 (am_ent 6 [.ref (b + 3), .int c, .ref (ad k), .int (ii (n256 w))]) [] σ top sl (.inl (some (va_rf ((fsO dec pl k w o).map fun q => ea q.1 q.2))), σ, top, sl) := by
    intro h1 h2
    rw [h1] at h
    rw [h2]
    refine x_n cd_i27_0 rfl rfl ?_
    refine x_n cd_i27_1 rfl rfl ?_
    show am_to cd_t _ _ 27 2 _ _ _ _ _ _
    refine x_callv (as' := [.int c]) cd_i27_2 hC.1 (by omega) rfl rfl rfl rfl rfl rfl h ?_
    refine x_n cd_i27_5 rfl rfl ?_
    try dsimp only [List.set]
    refine x_n cd_i27_7 rfl rfl ?_
    show am_to cd_t _ _ 27 9 _ _ _ _ _ _
    refine x_null_t cd_i27_9 ?_
    refine x_n cd_i27_58 rfl rfl ?_
    show am_to cd_t _ _ 27 59 _ _ _ _ _ _
    exact x_end cd_i27_59 rfl rfl rfl
  rcases ho with ⟨h1, h2⟩ | ⟨n, h1, h2, h3⟩
  · refine nul ?_ (by rw [h1]; rfl)
    unfold declM
    rw [if_neg (by omega)]
  · have e : declM dec c = dec n := by
      unfold declM
      rw [h3, ii_toInt (by omega), ii_nn (by omega), if_pos (by omega)]
    cases hD : dec n with
    | none => exact nul (by rw [e, hD]) (by rw [h1]; exact fsL_none hD)
    | some D =>
      rw [e, hD, h3, ii_nn (by omega)] at h
      rw [h1, h3]
      refine x_n cd_i27_0 rfl rfl ?_
      refine x_n cd_i27_1 rfl rfl ?_
      show am_to cd_t _ _ 27 2 _ _ _ _ _ _
      refine x_callv (as' := [.int (ii n)]) cd_i27_2 hC.1 (by omega) rfl rfl rfl rfl rfl rfl h ?_
      refine x_n cd_i27_5 rfl rfl ?_
      try dsimp only [List.set]
      show am_to cd_t _ _ 27 7 _ _ _ _ _ _
      exact x_fs_loop hd hcs hC hO hr hk hw 11 n D none (deep_11 hr h2) hD
theorem x_isSeen {c x j : Nat} {D : Dec} (hd : 2 < d) (hcs : csOk cs ad) (hC : X_cat ad σ b hi dec pl da ea) (hO : catOk dec) (hr : ranked dec rk) (hc : c < 10) (hD : dec x = some D) (hj : j < D.2.length) :
    am_to cd_t cs d 26 0 (am_ent 3 [.ref (b + 3), .int (ii c), .ref (ea x j)]) [] σ top sl (.inl (some (.int (b2i (snB dec pl c x j)))), σ, top, sl) := by
  have hx := (hr x D hD).1
  obtain ⟨q1, q2, qr, qg, q3, q4, q5, q6, q7, q8⟩ := hC.2.2.1 x D hx hD
  have hE := (q8 j hj).2
  have hok := (hO x D hD).2.1 _ (getD_mem hj)
  have emem : memsOf dec x = D.2 := by unfold memsOf; rw [hD]
  unfold snB
  rw [emem]
  obtain ⟨m1, m2, mp, mf, m3, m4, m5, m6, m7, m8⟩ := id hE
  refine x_n cd_i26_0 rfl rfl ?_
  refine x_getf cd_i26_1 (by assumption) rfl rfl ?_
  show am_to cd_t _ _ 26 4 _ _ _ _ _ _
  refine x_n cd_i26_4 rfl rfl ?_
  rw [hcs.2.2.1]
  refine x_aceq cd_i26_7 (fun z => ?_) (fun z => ?_)
  · have ek := hcs.2.2.2.2.2 _ _ hok.1 (by decide) z
    rw [beq_iff_eq.mpr ek]
    refine x_ic cd_i26_31 (z := ii 0) rfl ?_
    show am_to cd_t _ _ 26 32 _ _ _ _ _ _
    exact x_end cd_i26_32 rfl rfl rfl
  · have ek : ¬ (D.2.getD j default).1 = 2 := fun w => z (by rw [w])
    rw [beq_eq_false_iff_ne.mpr ek, Bool.not_false, Bool.true_and]
    have hf := x_findSeen (cs := cs) (d := d - 1) (top := top) (sl := sl) (k := (D.2.getD j default).1) (w := (D.2.getD j default).2.2.2.1) (c := ii c) (o := some c) (by omega) hcs hC hO hr (by have := hok.1; omega) hok.2.1 (Or.inr ⟨c, rfl, hc, rfl⟩)
    have go : ∀ res, am_to cd_t cs d 26 24 [some (.ref (b + 3)), some (.int (ii c)), some (.ref (ea x j))] [.ref (ea x j), va_rf ((fsO dec pl (D.2.getD j default).1 (D.2.getD j default).2.2.2.1 (some c)).map fun q => ea q.1 q.2)] σ top sl res → am_to cd_t cs d 26 10 [some (.ref (b + 3)), some (.int (ii c)), some (.ref (ea x j))] [] σ top sl res := by
      intro res hh
      refine x_n cd_i26_10 rfl rfl ?_
      refine x_n cd_i26_11 rfl rfl ?_
      refine x_n cd_i26_12 rfl rfl ?_
      refine x_getf cd_i26_13 (by assumption) rfl rfl ?_
      refine x_n cd_i26_16 rfl rfl ?_
      refine x_getf cd_i26_17 (by assumption) rfl rfl ?_
      show am_to cd_t _ _ 26 20 _ _ _ _ _ _
      refine x_callv (as' := [.int (ii c), .ref (ad (D.2.getD j default).1), .int (ii (n256 (D.2.getD j default).2.2.2.1))]) cd_i26_20 hC.1 (by omega) rfl rfl rfl rfl rfl rfl hf ?_
      refine x_n cd_i26_23 rfl rfl ?_
      show am_to cd_t _ _ 26 24 _ _ _ _ _ _
      exact hh
    refine go _ ?_
    show am_to cd_t cs d 26 24 _ [.ref (ea x j), va_rf ((fsL dec pl (D.2.getD j default).1 (D.2.getD j default).2.2.2.1 (chain dec 11 c)).map fun q => ea q.1 q.2)] σ top sl _
    cases hfs : fsL dec pl (D.2.getD j default).1 (D.2.getD j default).2.2.2.1 (chain dec 11 c) with
    | none =>
      refine x_n (pc' := 31) cd_i26_24 rfl rfl ?_
      refine x_ic cd_i26_31 (z := ii 0) rfl ?_
      show am_to cd_t _ _ 26 32 _ _ _ _ _ _
      exact x_end cd_i26_32 rfl rfl rfl
    | some q =>
      obtain ⟨x', j'⟩ := q
      have hin : ∀ l, fsL dec pl (D.2.getD j default).1 (D.2.getD j default).2.2.2.1 l = some (x', j') → ∃ D', dec x' = some D' ∧ j' < D'.2.length := by
        intro l
        induction l with
        | nil => intro h; cases h
        | cons y l ih =>
          intro h
          rw [fsL] at h
          cases hfi : (memsOf dec y).findIdx? (fun M => isNm (D.2.getD j default).1 (D.2.getD j default).2.2.2.1 M && bhB pl y M) with
          | none =>
            rw [hfi] at h
            exact ih h
          | some i =>
            rw [hfi] at h
            have h := Option.some.inj h
            have h1 := (Prod.mk.inj h).1
            have h2 := (Prod.mk.inj h).2
            have h3 := (find_some hfi).1
            unfold memsOf at h3
            cases hy : dec y with
            | none =>
              rw [hy] at h3
              exact absurd h3 (Nat.not_lt_zero _)
            | some D' =>
              rw [hy] at h3
              rw [← h1, ← h2]
              exact ⟨D', hy, h3⟩
      obtain ⟨D', hD', hj'⟩ := hin _ hfs
      show am_to cd_t cs d 26 24 _ [.ref (ea x j), .ref (ea x' j')] σ top sl _
      refine x_acne cd_i26_24 (fun z => ?_) (fun z => ?_)
      · obtain ⟨e1, e2⟩ := hC.2.2.2.2 x' D' x D j' j hD' hD hj' hj z
        rw [e1, e2, beq_self_eq_true]
        refine x_ic cd_i26_27 (z := ii 1) rfl ?_
        refine x_n cd_i26_28 rfl rfl ?_
        show am_to cd_t _ _ 26 32 _ _ _ _ _ _
        exact x_end cd_i26_32 rfl rfl rfl
      · have : ¬ some (x', j') = some (x, j) := fun w => z (by have w := Option.some.inj w; rw [(Prod.mk.inj w).1, (Prod.mk.inj w).2])
        rw [beq_eq_false_iff_ne.mpr this]
        refine x_ic cd_i26_31 (z := ii 0) rfl ?_
        show am_to cd_t _ _ 26 32 _ _ _ _ _ _
        exact x_end cd_i26_32 rfl rfl rfl
end SE
