/-! what a declaration allows -/
def distM (ms : List Mem) : Prop := ∀ i j, i < ms.length → j < ms.length → (ms.getD i default).1 = (ms.getD j default).1 → (ms.getD i default).2.2.2.1 = (ms.getD j default).2.2.2.1 → i = j
/-- one place more -/
def upN (f : Nat → Nat) (k x : Nat) : Nat → Nat := fun i => if i = k then x else f i
def catOk (dec : Nat → Option Dec) : Prop := ∀ c D, dec c = some D → D.2.length ≤ 6 ∧ (∀ M ∈ D.2, memOk M) ∧ distM D.2
/-- a method above that stands against it -/
def confl (N M : Mem) : Bool := isNm 1 M.2.2.2.1 N && !N.2.1 && (N.2.2.1 || M.2.2.1 || !sameT M N)
def memsOf (dec : Nat → Option Dec) (c : Nat) : List Mem := match dec c with
  | none => []
  | some D => D.2
def up (dec : Nat → Option Dec) (par : Option Nat) : List Nat := match par with
  | none => []
  | some p => chain dec 11 p
def noC (dec : Nat → Option Dec) (M : Mem) (l : List Nat) : Bool := l.all (fun c => (memsOf dec c).all (fun N => !confl N M))
def okM (dec : Nat → Option Dec) (par : Option Nat) (ms : List Mem) (M : Mem) : Bool := ms.all (fun N => !isNm M.1 M.2.2.2.1 N) && (!(M.1 == 1) || noC dec M (up dec par))
theorem memAt.wide {ad : Nat → Nat} {σ : am_H} {lo hi lo' hi' e : Nat} {M : Mem} (h : memAt ad σ lo hi e M) (h1 : lo' ≤ lo) (h2 : hi ≤ hi') : memAt ad σ lo' hi' e M := by
  obtain ⟨g1, g2, p, f, g3, g4, g5⟩ := h
  exact ⟨by omega, by omega, p, f, by omega, by omega, g5⟩
theorem decAt.wide {ad : Nat → Nat} {σ : am_H} {lo hi lo' hi' a c : Nat} {par : Option Nat} {ms : List Mem} {ea : Nat → Nat} (h : decAt ad σ lo hi a c par ms ea) (h1 : lo' ≤ lo) (h2 : hi ≤ hi') : decAt ad σ lo' hi' a c par ms ea := by
  obtain ⟨g1, g2, r, f, g3, g4, g5, g6, g7, g8⟩ := h
  exact ⟨by omega, by omega, r, f, by omega, by omega, g5, g6, g7, fun i hi => ⟨(g8 i hi).1, (g8 i hi).2.wide h1 h2⟩⟩
theorem getD_mem {ms : List Mem} {j : Nat} (h : j < ms.length) : ms.getD j default ∈ ms := by
  rw [List.getD_eq_getElem?_getD, List.getElem?_eq_getElem h]
  exact List.getElem_mem h
theorem all_getD {ms : List Mem} {P : Mem → Bool} : ms.all P = true ↔ ∀ j, j < ms.length → P (ms.getD j default) = true := by
  rw [List.all_eq_true]
  constructor
  · intro h j hj
    exact h _ (getD_mem hj)
  · intro h x hx
    obtain ⟨j, hj, e⟩ := List.getElem_of_mem hx
    have := h j hj
    rw [List.getD_eq_getElem?_getD, List.getElem?_eq_getElem hj] at this
    rw [← e]
    exact this
/-- by the one that is found all is said -/
theorem fnd_all {ms : List Mem} {k : Nat} {w : List Nat} {r : Option Nat} {P : Mem → Bool} (hd : distM ms) (hr : fndR ms k w r) (hP : ∀ N, P N = true → isNm k w N = true) : ms.all (fun N => !P N) = (match r with | none => true | some j => !P (ms.getD j default)) := by
  cases r with
  | none =>
    rw [all_getD]
    intro j hj
    cases h : P (ms.getD j default) with
    | false => rfl
    | true =>
      have h2 := hr j hj
      rw [hP _ h] at h2
      cases h2
  | some j =>
    obtain ⟨h1, h2, -⟩ := hr
    dsimp only
    cases h : P (ms.getD j default) with
    | false =>
      rw [Bool.not_false, all_getD]
      intro i hi
      cases h3 : P (ms.getD i default) with
      | false => rfl
      | true =>
        have h4 := hP _ h3
        unfold isNm at h2 h4
        rw [Bool.and_eq_true, beq_iff_eq, beq_iff_eq] at h2 h4
        have : i = j := hd i j hi h1 (by rw [h2.1, h4.1]) (by rw [h2.2, h4.2])
        rw [this, h] at h3
        cases h3
    | true =>
      cases h5 : ms.all (fun N => !P N) with
      | false => rfl
      | true =>
        have := all_getD.mp h5 j h1
        rw [h] at this
        cases this
section OV
variable {cs : Nat → Value} {d b top sl : Nat} {σ : am_H} {ad : Nat → Nat} {hi : Nat} {dec : Nat → Option Dec} {pl : Int32} {da : Nat → Nat} {ea : Nat → Nat → Nat}
theorem x_over_loop {rk : Nat → Nat} {a e lo' hi' : Nat} {M : Mem} (hd : 1 < d) (hcs : csOk cs ad) (hC : X_cat ad σ b hi dec pl da ea) (hO : catOk dec) (hr : ranked dec rk) (hE : memAt ad σ lo' hi' e M) (hM : memOk M) :
    ∀ (n c : Nat) (D : Dec) (v3 : Option Value), deep dec n c → dec c = some D → am_to cd_t cs d 56 5 [some (.ref a), some (.ref e), some (.ref (da c)), v3] [] σ top sl (.inl (some (.int (b2i (noC dec M (chain dec n c))))), σ, top, sl)
  | 0, c, D, v3, h, _ => absurd h id
  | n + 1, c, D, v3, h, hD => by
    obtain ⟨hc, hdeep⟩ := h
    have hDA := hC.2.2.1 c D hc hD
    obtain ⟨o1, o2, o3⟩ := hO c D hD
    obtain ⟨r, k1, k2⟩ := x_find (cs := cs) (d := d - 1) (top := top) (sl := sl) (k := 1) (w := M.2.2.2.1) (by omega) hcs hDA o2 (by decide) hM.2.1
    have hall := fnd_all (P := fun N => confl N M) o3 k1 (fun N h => by unfold confl at h; rw [Bool.and_eq_true, Bool.and_eq_true] at h; exact h.1.1)
    obtain ⟨m1, m2, mp, mf, m3, m4, m5, m6, m7, m8⟩ := id hE
    obtain ⟨q1, q2, qr, qg, q3, q4, q5, q6, q7, q8⟩ := id hDA
    have ech : chain dec (n + 1) c = c :: (match D.1 with | none => [] | some p => chain dec n p) := by
      rw [chain_succ]
      unfold abv
      rw [hD]
      rfl
    have emem : memsOf dec c = D.2 := by unfold memsOf; rw [hD]
    have eno : noC dec M (chain dec (n + 1) c) = (D.2.all (fun N => !confl N M) && noC dec M (match D.1 with | none => [] | some p => chain dec n p)) := by
      rw [ech]
      unfold noC
      rw [List.all_cons, emem]
    have go1 : ∀ res, am_to cd_t cs d 56 22 [some (.ref a), some (.ref e), some (.ref (da c)), some (va_rf (r.map (ea c)))] [va_rf (r.map (ea c))] σ top sl res → am_to cd_t cs d 56 5 [some (.ref a), some (.ref e), some (.ref (da c)), v3] [] σ top sl res := by
      intro res hh
      refine x_n cd_i56_5 rfl rfl ?_
      show am_to cd_t _ _ 56 6 _ _ _ _ _ _
      refine x_null_f cd_i56_6 ?_
      refine x_n cd_i56_9 rfl rfl ?_
      show am_to cd_t _ _ 56 10 _ _ _ _ _ _
      refine x_n cd_i56_10 rfl rfl ?_
      rw [hcs.2.1]
      refine x_n cd_i56_13 rfl rfl ?_
      refine x_getf cd_i56_14 (by assumption) rfl rfl ?_
      show am_to cd_t _ _ 56 17 _ _ _ _ _ _
      refine x_callv (as' := [.ref (ad 1), .int (ii (n256 M.2.2.2.1))]) cd_i56_17 q5 (by omega) rfl rfl rfl rfl rfl rfl k2 ?_
      cases r with
      | none =>
        refine x_n cd_i56_20 rfl rfl ?_
        try dsimp only [List.set]
        refine x_n cd_i56_21 rfl rfl ?_
        show am_to cd_t _ _ 56 22 _ _ _ _ _ _
        exact hh
      | some j =>
        refine x_n cd_i56_20 rfl rfl ?_
        try dsimp only [List.set]
        refine x_n cd_i56_21 rfl rfl ?_
        show am_to cd_t _ _ 56 22 _ _ _ _ _ _
        exact hh
    have next : D.2.all (fun N => !confl N M) = true → ∀ v3', am_to cd_t cs d 56 56 [some (.ref a), some (.ref e), some (.ref (da c)), v3'] [] σ top sl (.inl (some (.int (b2i (noC dec M (chain dec (n + 1) c))))), σ, top, sl) := by
      intro ha v3'
      rw [eno, ha, Bool.true_and]
      cases hp : D.1 with
      | none =>
        rw [hp] at q5
        refine x_n cd_i56_56 rfl rfl ?_
        show am_to cd_t _ _ 56 57 _ _ _ _ _ _
        refine x_getf cd_i56_57 q5 rfl rfl ?_
        refine x_n cd_i56_60 rfl rfl ?_
        try dsimp only [List.set]
        refine x_n cd_i56_61 rfl rfl ?_
        refine x_n cd_i56_5 rfl rfl ?_
        show am_to cd_t _ _ 56 6 _ _ _ _ _ _
        refine x_null_t cd_i56_6 ?_
        refine x_ic cd_i56_64 (z := ii 1) rfl ?_
        show am_to cd_t _ _ 56 65 _ _ _ _ _ _
        exact x_end cd_i56_65 rfl rfl rfl
      | some p =>
        rw [hp] at q5
        obtain ⟨D', hD'⟩ := ((hr c D hD).2.2 p hp).2.1
        refine x_n cd_i56_56 rfl rfl ?_
        show am_to cd_t _ _ 56 57 _ _ _ _ _ _
        refine x_getf cd_i56_57 q5 rfl rfl ?_
        refine x_n cd_i56_60 rfl rfl ?_
        try dsimp only [List.set]
        refine x_n cd_i56_61 rfl rfl ?_
        show am_to cd_t _ _ 56 5 _ _ _ _ _ _
        exact x_over_loop hd hcs hC hO hr hE hM n p D' v3' (hdeep D p hD hp) hD'
    rw [hall] at next eno
    cases r with
    | none =>
      refine go1 _ (x_null_t cd_i56_22 ?_)
      exact next rfl _
    | some j =>
      have j1 := k1.1
      have j2 := k1.2.1
      have g2 := (q8 j j1).2
      have hN : memOk (D.2.getD j default) := o2 _ (getD_mem j1)
      dsimp only at next eno
      generalize D.2.getD j default = N at hN g2 j2 eno next
      obtain ⟨n1, n2, np, nf, n3, n4, n5, n6, n7, n8⟩ := id g2
      have hT := x_hasTypes (cs := cs) (d := d - 1) (top := top) (sl := sl) (hE.wide (Nat.zero_le _) (Nat.le_max_left _ hi)) (g2.wide (Nat.zero_le _) (Nat.le_max_right hi' hi)) hM hN
      have ec : confl N M = (!N.2.1 && (N.2.2.1 || M.2.2.1 || !sameT M N)) := by unfold confl; rw [j2, Bool.true_and]
      have no : confl N M = true → am_to cd_t cs d 56 54 [some (.ref a), some (.ref e), some (.ref (da c)), some (.ref (ea c j))] [] σ top sl (.inl (some (.int (b2i (noC dec M (chain dec (n + 1) c))))), σ, top, sl) := by
        intro z
        rw [eno, z]
        refine x_ic cd_i56_54 (z := ii 0) rfl ?_
        show am_to cd_t _ _ 56 55 _ _ _ _ _ _
        exact x_end cd_i56_55 rfl rfl rfl
      refine go1 _ (x_null_f cd_i56_22 ?_)
      refine x_n cd_i56_25 rfl rfl ?_
      refine x_getf cd_i56_26 (by assumption) rfl rfl ?_
      show am_to cd_t _ _ 56 29 _ _ _ _ _ _
      cases hp : N.2.1 with
      | true =>
        refine x_if_t cd_i56_29 (fun z => absurd (show (1 : Int32) = 0 from z) (by decide)) ?_
        exact next (by show (!confl N M) = true; rw [ec, hp]; rfl) _
      | false =>
        refine x_if_f cd_i56_29 (fun z => z rfl) ?_
        refine x_n cd_i56_32 rfl rfl ?_
        refine x_getf cd_i56_33 (by assumption) rfl rfl ?_
        show am_to cd_t _ _ 56 36 _ _ _ _ _ _
        cases hs : N.2.2.1 with
        | true =>
          refine x_if_t cd_i56_36 (fun z => absurd (show (1 : Int32) = 0 from z) (by decide)) ?_
          exact no (by rw [ec, hp, hs]; rfl)
        | false =>
          refine x_if_f cd_i56_36 (fun z => z rfl) ?_
          refine x_n cd_i56_39 rfl rfl ?_
          refine x_getf cd_i56_40 (by assumption) rfl rfl ?_
          show am_to cd_t _ _ 56 43 _ _ _ _ _ _
          cases ht : M.2.2.1 with
          | true =>
            refine x_if_t cd_i56_43 (fun z => absurd (show (1 : Int32) = 0 from z) (by decide)) ?_
            exact no (by rw [ec, hp, hs, ht]; rfl)
          | false =>
            refine x_if_f cd_i56_43 (fun z => z rfl) ?_
            refine x_n cd_i56_46 rfl rfl ?_
            refine x_n cd_i56_47 rfl rfl ?_
            show am_to cd_t _ _ 56 48 _ _ _ _ _ _
            refine x_callv (as' := [.ref (ea c j)]) cd_i56_48 m5 (by omega) rfl rfl rfl rfl rfl rfl hT ?_
            cases hb : sameT M N with
            | true =>
              refine x_if_t cd_i56_51 (fun z => absurd (show (1 : Int32) = 0 from z) (by decide)) ?_
              exact next (by show (!confl N M) = true; rw [ec, hp, hs, ht, hb]; rfl) _
            | false =>
              refine x_if_f cd_i56_51 (fun z => z rfl) ?_
              exact no (by rw [ec, hp, hs, ht, hb]; rfl)
theorem x_over {rk : Nat → Nat} {a e lo hh lo' hi' c : Nat} {M : Mem} {par : Option Nat} {ms : List Mem} {ea' : Nat → Nat} (hd : 1 < d) (hcs : csOk cs ad) (hC : X_cat ad σ b hi dec pl da ea) (hO : catOk dec) (hr : ranked dec rk) (hE : memAt ad σ lo' hi' e M) (hM : memOk M) (hA : decAt ad σ lo hh a c (par.map da) ms ea') (hpar : ∀ p, par = some p → ∃ D, dec p = some D) :
    am_to cd_t cs d 56 0 (am_ent 4 [.ref a, .ref e]) [] σ top sl (.inl (some (.int (b2i (noC dec M (up dec par))))), σ, top, sl) := by
  obtain ⟨q1, q2, qr, qg, q3, q4, q5, q6, q7, q8⟩ := hA
  cases par with
  | none =>
    refine x_n cd_i56_0 rfl rfl ?_
    show am_to cd_t _ _ 56 1 _ _ _ _ _ _
    refine x_getf cd_i56_1 q5 rfl rfl ?_
    refine x_n cd_i56_4 rfl rfl ?_
    try dsimp only [List.set]
    refine x_n cd_i56_5 rfl rfl ?_
    show am_to cd_t _ _ 56 6 _ _ _ _ _ _
    refine x_null_t cd_i56_6 ?_
    refine x_ic cd_i56_64 (z := ii 1) rfl ?_
    show am_to cd_t _ _ 56 65 _ _ _ _ _ _
    exact x_end cd_i56_65 rfl rfl rfl
  | some p =>
    obtain ⟨D, hD⟩ := hpar p rfl
    refine x_n cd_i56_0 rfl rfl ?_
    show am_to cd_t _ _ 56 1 _ _ _ _ _ _
    refine x_getf cd_i56_1 q5 rfl rfl ?_
    refine x_n cd_i56_4 rfl rfl ?_
    try dsimp only [List.set]
    show am_to cd_t _ _ 56 5 _ _ _ _ _ _
    exact x_over_loop hd hcs hC hO hr hE hM 11 p D none (deep_11 hr (hr p D hD).1) hD
theorem x_allows {rk : Nat → Nat} {a e lo hh lo' hi' c : Nat} {M : Mem} {par : Option Nat} {ms : List Mem} {ea' : Nat → Nat} (hd : 2 < d) (hcs : csOk cs ad) (hC : X_cat ad σ b hi dec pl da ea) (hO : catOk dec) (hr : ranked dec rk) (hE : memAt ad σ lo' hi' e M) (hM : memOk M) (hA : decAt ad σ lo hh a c (par.map da) ms ea') (hms : ∀ M ∈ ms, memOk M) (hdist : distM ms) (hpar : ∀ p, par = some p → ∃ D, dec p = some D) :
    am_to cd_t cs d 55 0 (am_ent 2 [.ref a, .ref e]) [] σ top sl (.inl (some (.int (b2i (okM dec par ms M)))), σ, top, sl) := by
  have hov := x_over (cs := cs) (d := d - 1) (top := top) (sl := sl) (by omega) hcs hC hO hr hE hM hA hpar
  obtain ⟨r, k1, k2⟩ := x_find (cs := cs) (d := d - 1) (top := top) (sl := sl) (k := M.1) (w := M.2.2.2.1) (by omega) hcs hA hms hM.1 hM.2.1
  have hall := fnd_all (P := isNm M.1 M.2.2.2.1) hdist k1 (fun N h => h)
  obtain ⟨m1, m2, mp, mf, m3, m4, m5, m6, m7, m8⟩ := id hE
  obtain ⟨q1, q2, qr, qg, q3, q4, q5, q6, q7, q8⟩ := id hA
  unfold okM
  rw [hall]
  have go1 : ∀ res, am_to cd_t cs d 55 12 [some (.ref a), some (.ref e)] [va_rf (r.map ea')] σ top sl res → am_to cd_t cs d 55 0 (am_ent 2 [.ref a, .ref e]) [] σ top sl res := by
    intro res hh
    refine x_n cd_i55_0 rfl rfl ?_
    refine x_n cd_i55_1 rfl rfl ?_
    refine x_getf cd_i55_2 (by assumption) rfl rfl ?_
    refine x_n cd_i55_5 rfl rfl ?_
    refine x_getf cd_i55_6 (by assumption) rfl rfl ?_
    show am_to cd_t _ _ 55 9 _ _ _ _ _ _
    refine x_callv (as' := [.ref (ad M.1), .int (ii (n256 M.2.2.2.1))]) cd_i55_9 q5 (by omega) rfl rfl rfl rfl rfl rfl k2 ?_
    exact hh
  cases r with
  | some j =>
    dsimp only
    rw [k1.2.1]
    refine go1 _ (x_null_f cd_i55_12 ?_)
    refine x_ic cd_i55_15 (z := ii 0) rfl ?_
    show am_to cd_t _ _ 55 16 _ _ _ _ _ _
    exact x_end cd_i55_16 rfl rfl rfl
  | none =>
    dsimp only
    rw [Bool.true_and]
    refine go1 _ (x_null_t cd_i55_12 ?_)
    refine x_n cd_i55_17 rfl rfl ?_
    refine x_getf cd_i55_18 (by assumption) rfl rfl ?_
    show am_to cd_t _ _ 55 21 _ _ _ _ _ _
    refine x_n cd_i55_21 rfl rfl ?_
    rw [hcs.2.1]
    refine x_acne cd_i55_24 (fun z => ?_) (fun z => ?_)
    · have ek := hcs.2.2.2.2.2 _ _ hM.1 (by decide) z
      rw [ek]
      refine x_n cd_i55_27 rfl rfl ?_
      refine x_n cd_i55_28 rfl rfl ?_
      show am_to cd_t _ _ 55 29 _ _ _ _ _ _
      refine x_callv (as' := [.ref e]) cd_i55_29 q5 (by omega) rfl rfl rfl rfl rfl rfl hov ?_
      cases noC dec M (up dec par) with
      | true =>
        refine x_if_f cd_i55_32 (fun z => absurd (show (1 : Int32) = 0 from z) (by decide)) ?_
        refine x_ic cd_i55_35 (z := ii 1) rfl ?_
        refine x_n cd_i55_36 rfl rfl ?_
        show am_to cd_t _ _ 55 40 _ _ _ _ _ _
        exact x_end cd_i55_40 rfl rfl rfl
      | false =>
        refine x_if_t cd_i55_32 rfl ?_
        refine x_ic cd_i55_39 (z := ii 0) rfl ?_
        show am_to cd_t _ _ 55 40 _ _ _ _ _ _
        exact x_end cd_i55_40 rfl rfl rfl
    · have : ¬ M.1 = 1 := fun q => z (by rw [q])
      rw [beq_eq_false_iff_ne.mpr this]
      refine x_ic cd_i55_35 (z := ii 1) rfl ?_
      refine x_n cd_i55_36 rfl rfl ?_
      show am_to cd_t _ _ 55 40 _ _ _ _ _ _
      exact x_end cd_i55_40 rfl rfl rfl
theorem x_decAdd {a e lo hh c : Nat} {M : Mem} {par : Option Nat} {ms : List Mem} {ea' : Nat → Nat} (hE : memAt ad σ lo hh e M) (hA : decAt ad σ lo hh a c par ms ea') (hl : ms.length < 6) :
    ∃ (σ' : am_H), am_to cd_t cs d 58 0 (am_ent 2 [.ref a, .ref e]) [] σ top sl (.inl (some (.int (ii 1))), σ', top, sl) ∧ decAt ad σ' lo hh a c par (ms ++ [M]) (upN ea' ms.length e) ∧ ∀ x, x < lo → σ' x = σ x := by
  obtain ⟨q1, q2, qr, qg, q3, q4, q5, q6, q7, q8⟩ := hA
  obtain ⟨m1, m2, mp, mf, m3, m4, m5, m6, m7, m8⟩ := id hE
  have hne : a ≠ qr := fun z => by rw [z, q6] at q5; cases q5
  obtain ⟨s1, hs1⟩ : ∃ z, z = am_up σ qr (.inl (.object "ChainDesk$Member", 6, .inr (.inr (.inr (.inr (va_up qg ms.length (some e))))))) := ⟨_, rfl⟩
  have h1 : s1 a = some (.inr (.inl (4, [.int (ii c), va_rf par, .ref qr, .int (ii ms.length)]))) := by rw [hs1, am_up_ne _ _ hne]; exact q5
  have h1r : s1 qr = some (.inl (.object "ChainDesk$Member", 6, .inr (.inr (.inr (.inr (va_up qg ms.length (some e))))))) := by rw [hs1]; exact am_up_self _ _ _
  have el : (ms ++ [M]).length = ms.length + 1 := List.length_append
  obtain ⟨s2, hs2⟩ : ∃ z, z = am_up s1 a (.inr (.inl (4, [.int (ii c), va_rf par, .ref qr, .int (ii (ms.length + 1))]))) := ⟨_, rfl⟩
  have f2 : ∀ x, x ≠ a → x ≠ qr → s2 x = σ x := fun x g1 g2 => by rw [hs2, am_up_ne _ _ g1, hs1, am_up_ne _ _ g2]
  have keep : ∀ e' M', memAt ad σ lo hh e' M' → memAt ad s2 lo hh e' M' := by
    intro e' M' ⟨n1, n2, np, nf, n3, n4, n5, n6, n7⟩
    have x1 : e' ≠ a := fun z => by rw [z, q5] at n5; cases n5
    have x2 : e' ≠ qr := fun z => by rw [z, q6] at n5; cases n5
    have x3 : np ≠ a := fun z => by rw [z, q5] at n6; cases n6
    have x4 : np ≠ qr := fun z => by rw [z, q6] at n6; cases n6
    exact ⟨n1, n2, np, nf, n3, n4, (f2 _ x1 x2).trans n5, (f2 _ x3 x4).trans n6, n7⟩
  refine ⟨s2, ?_, ⟨q1, q2, qr, va_up qg ms.length (some e), q3, q4, by rw [hs2, am_up_self, el], by rw [hs2, am_up_ne _ _ (fun z => hne z.symm)]; exact h1r, by omega, fun i hi => ?_⟩, fun x hx => f2 x (by omega) (by omega)⟩
  · refine x_n cd_i58_0 rfl rfl ?_
    refine x_getf cd_i58_1 (by assumption) rfl rfl ?_
    refine x_n cd_i58_4 rfl rfl ?_
    refine x_getf cd_i58_5 (by assumption) rfl rfl ?_
    show am_to cd_t _ _ 58 8 _ _ _ _ _ _
    refine x_len cd_i58_8 q6 ?_
    refine x_icmp_t cd_i58_9 (fun z => by have := (ii_eq (by omega) (by decide)).mp (show ii ms.length = ii 6 from z); omega) ?_
    refine x_n cd_i58_14 rfl rfl ?_
    refine x_getf cd_i58_15 (by assumption) rfl rfl ?_
    refine x_n cd_i58_18 rfl rfl ?_
    refine x_getf cd_i58_19 (by assumption) rfl rfl ?_
    refine x_n cd_i58_22 rfl rfl ?_
    show am_to cd_t _ _ 58 23 _ _ _ _ _ _
    refine x_aastore cd_i58_23 q6 m5 rfl hl (by decide) ?_
    refine hs1 ▸ ?_
    refine x_n cd_i58_24 rfl rfl ?_
    refine x_n cd_i58_25 rfl rfl ?_
    show am_to cd_t _ _ 58 26 _ _ _ _ _ _
    refine x_getf cd_i58_26 h1 rfl rfl ?_
    refine x_ic cd_i58_29 (z := ii 1) rfl ?_
    show am_to cd_t _ _ 58 30 _ _ _ _ _ _
    refine x_iadd cd_i58_30 (ii_add _ _) ?_
    refine x_putf cd_i58_31 (fs' := [.int (ii c), va_rf par, .ref qr, .int (ii (ms.length + 1))]) h1 rfl rfl rfl ?_
    refine hs2 ▸ ?_
    refine x_ic cd_i58_34 (z := ii 1) rfl ?_
    show am_to cd_t _ _ 58 35 _ _ _ _ _ _
    exact x_end cd_i58_35 rfl rfl rfl
  · rw [el] at hi
    unfold va_up upN
    rw [List.getD_eq_getElem?_getD]
    by_cases ei : i = ms.length
    · rw [if_pos ei, if_pos ei, ei, List.getElem?_append_right (Nat.le_refl _), Nat.sub_self]
      exact ⟨rfl, keep _ _ hE⟩
    · rw [if_neg ei, if_neg ei, List.getElem?_append_left (by omega), ← List.getD_eq_getElem?_getD]
      exact ⟨(q8 i (by omega)).1, keep _ _ (q8 i (by omega)).2⟩
end OV
