section EZ
variable {cs : Nat → Value} {b : Nat} {ad : Nat → Nat} {hi : Nat} {dec : Nat → Option Dec} {pl : Int32} {da : Nat → Nat} {ea : Nat → Nat → Nat} {rk : Nat → Nat} {vs : List (List Nat × Nat)} {txt : List Nat}
theorem kA_lt (q : Nat) : kA txt q < 2 := by unfold kA; split <;> decide
theorem no_nil {k c : Nat} (hO : catOk dec) (hk : k < 2) : ∀ j, j < (memsOf dec c).length → isNm k [] ((memsOf dec c).getD j default) = false := by
  intro j hj
  unfold memsOf at hj ⊢
  cases hD : dec c with
  | none =>
    rw [hD] at hj
    exact absurd hj (Nat.not_lt_zero _)
  | some D =>
    rw [hD] at hj
    have hok := (hO c D hD).2.1 _ (getD_mem hj)
    unfold isNm
    by_cases e : (D.2.getD j default).1 = k
    · have := hok.2.2.2.1 (by omega)
      have hne : ¬ (D.2.getD j default).2.2.2.1 = [] := fun z => by rw [z] at this; exact absurd this (by decide)
      rw [beq_eq_false_iff_ne.mpr hne, Bool.and_false]
    · rw [beq_eq_false_iff_ne.mpr e, Bool.false_and]
theorem fs_nil {k : Nat} (hO : catOk dec) (hk : k < 2) (o : Option Nat) : fsO dec pl k [] o = none := by
  have h : ∀ l, fsL dec pl k [] l = none := by
    intro l
    induction l with
    | nil => rfl
    | cons x l ih =>
      rw [fsL, find_eq0 (no_nil hO hk)]
      exact ih
  cases o with
  | none => rfl
  | some c => exact h _
theorem sta_nil {k c : Nat} (hO : catOk dec) (hk : k < 2) : staL dec pl c k [] = none := by
  unfold staL
  rw [find_eq0 (no_nil hO hk)]
  rfl
theorem varT_nil (h : ∀ q ∈ vs, 1 ≤ q.1.length) : varT vs [] = none := by
  unfold varT
  rw [Option.map_eq_none_iff, List.find?_eq_none]
  intro q hq z
  have z := beq_iff_eq.mp z
  have := h q hq
  rw [z] at this
  exact absurd this (by decide)
theorem fs_in {k c x j : Nat} {w : List Nat} {o : Option Nat} (h : fsO dec pl k w o = some (x, j)) : ∃ D, dec x = some D ∧ j < D.2.length := by
  cases o with
  | none => cases h
  | some c =>
    have h3 := (fsL_some _ h).2.1
    unfold memsOf at h3
    cases hD : dec x with
    | none =>
      rw [hD] at h3
      exact absurd h3 (Nat.not_lt_zero _)
    | some D =>
      rw [hD] at h3
      exact ⟨D, rfl, h3⟩
theorem sta_in {k c : Nat} {w : List Nat} {q : Nat × Nat} (h : staL dec pl c k w = some q) : ∃ D, dec q.1 = some D ∧ q.2 < D.2.length := by
  unfold staL at h
  obtain ⟨i, hi, e⟩ := Option.map_eq_some_iff.mp h
  have h3 := (find_some hi).1
  rw [← e]
  unfold memsOf at h3
  cases hD : dec c with
  | none =>
    rw [hD] at h3
    exact absurd h3 (Nat.not_lt_zero _)
  | some D =>
    rw [hD] at h3
    exact ⟨D, rfl, h3⟩
theorem tkN_ok (p : Nat) : nameOk ((tkN txt p).getD []) := by
  cases hN : tkN txt p with
  | none => exact ⟨(fun c hc => by cases hc), by decide⟩
  | some w =>
    obtain ⟨w0, w1, w2, w3⟩ := tkN_some hN
    exact ⟨w1, w3⟩
theorem x_selection {E : Nat → ERes} {dep dm d top sl : Nat} {σ : am_H} {p k t : Nat} (hd : dm + 3 < d) (hd3 : 5 < d) (hcs : csOk cs ad) (hT : ∀ c ∈ txt, cok c) (hO : catOk dec) (hr : ranked dec rk) (hE : XExp cs ad b hi dec pl da ea vs txt (dep + 1) E dm) (ht : t < 13) (hV : envX cs ad b hi dec pl da ea vs σ) (hK : X_er σ b k) (hB : X_buf σ b txt p) (hp : p ≤ txt.length) :
    ∃ (σ' : am_H) (p' k' : Nat), am_to cd_t cs d 97 0 (am_ent 4 [.ref (b + 10), .int (ii t), .int (ii dep)]) [] σ top sl (.inl (some (.int (oi ((selP dec pl txt E t p).map (fun R => R.1))))), σ', top, sl) ∧ X_buf σ' b txt p' ∧ p' ≤ txt.length ∧ X_er σ' b k' ∧ (∀ R, selP dec pl txt E t p = some R → p' = R.2.1 ∧ k' = k + R.2.2 ∧ R.1 < 13) ∧ ∀ x, x ≠ b + 1 → x ≠ b + 10 → σ' x = σ x := by
  obtain ⟨s1, a1, a2, a3⟩ := x_takeName (cs := cs) (d := d - 1) (top := top) (sl := sl) (by omega) hT hB hp
  have hwl := wl_len txt p hp
  have K1 : X_er s1 b k := hK.kept (a3 _ (by omega))
  have V1 := hV.kept (σ' := s1) (fun x h1 _ => a3 x h1)
  have hka := x_kindAhead (cs := cs) (d := d - 1) (top := top) (sl := sl) (by omega) hcs K1 a2 hT hwl
  obtain ⟨o, ho⟩ : ∃ o, o = (if 3 ≤ t then some (t - 3) else (none : Option Nat)) := ⟨_, rfl⟩
  have hc3 : (o = none ∧ (ii t - ii 3).toInt < 0) ∨ ∃ n, o = some n ∧ n < 10 ∧ ii t - ii 3 = ii n := by
    by_cases h3 : 3 ≤ t
    · rw [if_pos h3] at ho
      exact Or.inr ⟨t - 3, ho, by omega, ii_sub h3⟩
    · rw [if_neg h3] at ho
      refine Or.inl ⟨ho, ?_⟩
      rcases (show t = 0 ∨ t = 1 ∨ t = 2 by omega) with rfl | rfl | rfl <;> decide
  have hf := x_findSeen (cs := cs) (d := d - 1) (top := top) (sl := sl) (k := kA txt (p + (wl txt p).length)) (w := (tkN txt p).getD []) (c := ii t - ii 3) (o := o) (by omega) hcs V1.2.1 hO hr (kA_lt _) (tkN_ok p) hc3
  have esel : selP dec pl txt E t p = useP dec txt E (fsO dec pl (kA txt (p + (wl txt p).length)) ((tkN txt p).getD []) o) (p + (wl txt p).length) := by
    unfold selP
    rw [← ho]
    cases tkN txt p with
    | none =>
      show none = useP dec txt E (fsO dec pl _ [] o) _
      rw [fs_nil hO (kA_lt _)]
      rfl
    | some w => rfl
  obtain ⟨s2, p2, k2, c1, c2, c3, c4, c5, c6⟩ := x_use (cs := cs) (d := d - 1) (top := top) (sl := sl) (by omega) (by omega) hcs hT hO hr hE (o := fsO dec pl (kA txt (p + (wl txt p).length)) ((tkN txt p).getD []) o) (fun q hq => fs_in (c := 0) hq) V1 K1 a2 hwl
  rw [← esel] at c1 c5
  refine ⟨s2, p2, k2, ?_, c2, c3, c4, c5, fun x h1 h2 => (c6 x h1 h2).trans (a3 x h1)⟩
  refine x_n cd_i97_0 rfl rfl ?_
  refine x_getf cd_i97_1 (by assumption) rfl rfl ?_
  show am_to cd_t _ _ 97 4 _ _ _ _ _ _
  refine x_callv (as' := []) cd_i97_4 hB.1 (by omega) rfl rfl rfl rfl rfl rfl a1 ?_
  refine x_n cd_i97_7 rfl rfl ?_
  try dsimp only [List.set]
  refine x_n cd_i97_8 rfl rfl ?_
  refine x_n cd_i97_9 rfl rfl ?_
  refine x_getf cd_i97_10 (by assumption) rfl rfl ?_
  refine x_n cd_i97_13 rfl rfl ?_
  refine x_ic cd_i97_14 (z := ii 3) rfl ?_
  refine x_isub cd_i97_15 rfl ?_
  refine x_n cd_i97_16 rfl rfl ?_
  show am_to cd_t _ _ 97 17 _ _ _ _ _ _
  refine x_callv (as' := []) cd_i97_17 K1 (by omega) rfl rfl rfl rfl rfl rfl hka ?_
  refine x_n cd_i97_20 rfl rfl ?_
  show am_to cd_t _ _ 97 21 _ _ _ _ _ _
  refine x_callv (as' := [.int (ii t - ii 3), .ref (ad (kA txt (p + (wl txt p).length))), .int (ii (n256 ((tkN txt p).getD [])))]) cd_i97_21 V1.2.1.1 (by omega) rfl rfl rfl rfl rfl rfl hf ?_
  refine x_n cd_i97_24 rfl rfl ?_
  show am_to cd_t _ _ 97 25 _ _ _ _ _ _
  cases hq : fsO dec pl (kA txt (p + (wl txt p).length)) ((tkN txt p).getD []) o with
  | none =>
    rw [hq] at c1
    refine x_callv (as' := [.null, .int (ii dep)]) cd_i97_25 K1 (by omega) rfl rfl rfl rfl rfl rfl c1 ?_
    exact x_end cd_i97_28 rfl rfl rfl
  | some q =>
    rw [hq] at c1
    refine x_callv (as' := [.ref (ea q.1 q.2), .int (ii dep)]) cd_i97_25 K1 (by omega) rfl rfl rfl rfl rfl rfl c1 ?_
    exact x_end cd_i97_28 rfl rfl rfl
theorem x_exprHead {E : Nat → ERes} {dep dm d top sl : Nat} {σ : am_H} {p k : Nat} (hd : dm + 3 < d) (hd3 : 5 < d) (hcs : csOk cs ad) (hT : ∀ c ∈ txt, cok c) (hO : catOk dec) (hr : ranked dec rk) (hE : XExp cs ad b hi dec pl da ea vs txt (dep + 1) E dm) (hV : envX cs ad b hi dec pl da ea vs σ) (hK : X_er σ b k) (hB : X_buf σ b txt p) (hp : p ≤ txt.length) :
    ∃ (σ' : am_H) (p' k' : Nat), am_to cd_t cs d 90 0 (am_ent 4 [.ref (b + 10), .int (ii dep)]) [] σ top sl (.inl (some (.int (oi ((headP dec pl vs txt E p).map (fun R => R.1))))), σ', top, sl) ∧ X_buf σ' b txt p' ∧ p' ≤ txt.length ∧ X_er σ' b k' ∧ (∀ R, headP dec pl vs txt E p = some R → p' = R.2.1 ∧ k' = k + R.2.2 ∧ R.1 < 13) ∧ ∀ x, x ≠ b + 1 → x ≠ b + 10 → σ' x = σ x := by
  obtain ⟨kk, -, -, -, hk3, hkk⟩ := id hV.1
  obtain ⟨s1, a1, a2, a3⟩ := x_takeText (cs := cs) (d := d - 1) (top := top) (sl := sl) (by omega) hcs (hkk σ (fun _ _ => rfl)).2.2.2 hB hT hp
  have K1 : X_er s1 b k := hK.kept (a3 _ (by omega))
  have V1 := hV.kept (σ' := s1) (fun x h1 _ => a3 x h1)
  have go1 : ∀ res, am_to cd_t cs d 90 9 [some (.ref (b + 10)), some (.int (ii dep)), none, none] [.int (b2i (pre txt p wNewS))] s1 top sl res → am_to cd_t cs d 90 0 (am_ent 4 [.ref (b + 10), .int (ii dep)]) [] σ top sl res := by
    intro res hh
    refine x_n cd_i90_0 rfl rfl ?_
    refine x_getf cd_i90_1 (by assumption) rfl rfl ?_
    show am_to cd_t _ _ 90 4 _ _ _ _ _ _
    refine x_n cd_i90_4 rfl rfl ?_
    rw [hk3]
    refine x_callv (as' := [.ref (kk 3)]) cd_i90_6 hB.1 (by omega) rfl rfl rfl rfl rfl rfl a1 ?_
    exact hh
  cases hn : pre txt p wNewS with
  | true =>
    have hl4 := pre_len wNewS p hp (by decide) hn
    rw [hn] at a2 go1
    have a2 : X_buf s1 b txt (p + 4) := a2
    obtain ⟨s2, b1, b2, b3⟩ := x_takeClass (cs := cs) (d := d - 1) (top := top) (sl := sl) (by omega) a2 hT hl4
    have K2 : X_er s2 b k := K1.kept (b3 _ (by omega))
    have f2 : ∀ x, x ≠ b + 1 → s2 x = σ x := fun x h1 => (b3 x h1).trans (a3 x h1)
    have V2 := hV.kept (σ' := s2) (fun x h1 _ => f2 x h1)
    have hp2 : (tkC txt (p + 4)).2 ≤ txt.length := by
      cases hc : (tkC txt (p + 4)).1 with
      | none => rw [tkC_none hc]; exact hl4
      | some c =>
        obtain ⟨y1, y2, y3⟩ := tkC_some hc
        omega
    have hm := x_findMaker (cs := cs) (d := d - 1) (top := top) (sl := sl) (c := oi (tkC txt (p + 4)).1) (o := (tkC txt (p + 4)).1) (by omega) hcs V2.2.1 hO hr (by
      cases hc : (tkC txt (p + 4)).1 with
      | none => exact Or.inl ⟨rfl, rfl⟩
      | some c => exact Or.inr ⟨c, rfl, (tkC_some hc).2.1, rfl⟩)
    obtain ⟨s3, p3, k3, c1, c2, c3, c4, c5, c6⟩ := x_use (cs := cs) (d := d - 1) (top := top) (sl := sl) (by omega) (by omega) hcs hT hO hr hE (o := ((tkC txt (p + 4)).1.bind fun n => ownL dec pl n 2 [])) (fun q hq => by
      obtain ⟨n, h1, h2⟩ := Option.bind_eq_some_iff.mp hq
      obtain ⟨e1, D, hD, hj, -, -⟩ := own_in (x := q.1) (j := q.2) h2
      exact ⟨D, by rw [e1]; exact hD, hj⟩) V2 K2 b2 hp2
    have ehead : headP dec pl vs txt E p = useP dec txt E ((tkC txt (p + 4)).1.bind fun n => ownL dec pl n 2 []) (tkC txt (p + 4)).2 := by
      unfold headP
      rw [if_pos hn]
      cases hc : (tkC txt (p + 4)).1 with
      | none => rfl
      | some c =>
        rw [(tkC_some hc).1]
        rfl
    rw [ehead]
    refine ⟨s3, p3, k3, go1 _ (x_if_f cd_i90_9 (fun z => absurd (show (1 : Int32) = 0 from z) (by decide)) ?_), c2, c3, c4, c5, fun x h1 h2 => (c6 x h1 h2).trans (f2 x h1)⟩
    refine x_n cd_i90_12 rfl rfl ?_
    refine x_n cd_i90_13 rfl rfl ?_
    refine x_getf cd_i90_14 (by assumption) rfl rfl ?_
    refine x_n cd_i90_17 rfl rfl ?_
    refine x_getf cd_i90_18 (by assumption) rfl rfl ?_
    show am_to cd_t _ _ 90 21 _ _ _ _ _ _
    refine x_callv (as' := []) cd_i90_21 a2.1 (by omega) rfl rfl rfl rfl rfl rfl b1 ?_
    refine x_callv (as' := [.int (oi (tkC txt (p + 4)).1)]) cd_i90_24 V2.2.1.1 (by omega) rfl rfl rfl rfl rfl rfl hm ?_
    refine x_n cd_i90_27 rfl rfl ?_
    show am_to cd_t _ _ 90 28 _ _ _ _ _ _
    cases hq : ((tkC txt (p + 4)).1.bind fun n => ownL dec pl n 2 []) with
    | none =>
      rw [hq] at c1
      refine x_callv (as' := [.null, .int (ii dep)]) cd_i90_28 K2 (by omega) rfl rfl rfl rfl rfl rfl c1 ?_
      exact x_end cd_i90_31 rfl rfl rfl
    | some q =>
      rw [hq] at c1
      refine x_callv (as' := [.ref (ea q.1 q.2), .int (ii dep)]) cd_i90_28 K2 (by omega) rfl rfl rfl rfl rfl rfl c1 ?_
      exact x_end cd_i90_31 rfl rfl rfl
  | false =>
    rw [hn] at a2 go1
    have a2 : X_buf s1 b txt p := a2
    obtain ⟨s2, b1, b2, b3⟩ := x_takeClass (cs := cs) (d := d - 1) (top := top) (sl := sl) (by omega) a2 hT hp
    have K2 : X_er s2 b k := K1.kept (b3 _ (by omega))
    have f2 : ∀ x, x ≠ b + 1 → s2 x = σ x := fun x h1 => (b3 x h1).trans (a3 x h1)
    have V2 := hV.kept (σ' := s2) (fun x h1 _ => f2 x h1)
    have go2 : ∀ z : Int32, am_to cd_t cs (d - 1) 33 0 (am_ent 1 [.ref (b + 1)]) [] s1 top sl (.inl (some (.int z)), s2, top, sl) → ∀ res, am_to cd_t cs d 90 42 [some (.ref (b + 10)), some (.int (ii dep)), some (.int z), none] [.int (-1), .int z] s2 top sl res → am_to cd_t cs d 90 0 (am_ent 4 [.ref (b + 10), .int (ii dep)]) [] σ top sl res := by
      intro z hz res hh
      refine go1 res (x_if_t cd_i90_9 rfl ?_)
      refine x_n cd_i90_32 rfl rfl ?_
      refine x_getf cd_i90_33 (by assumption) rfl rfl ?_
      show am_to cd_t _ _ 90 36 _ _ _ _ _ _
      refine x_callv (as' := []) cd_i90_36 a2.1 (by omega) rfl rfl rfl rfl rfl rfl hz ?_
      refine x_n cd_i90_39 rfl rfl ?_
      try dsimp only [List.set]
      refine x_n cd_i90_40 rfl rfl ?_
      refine x_ic cd_i90_41 (z := (-1)) rfl ?_
      show am_to cd_t _ _ 90 42 _ _ _ _ _ _
      exact hh
    cases hc : (tkC txt p).1 with
    | none =>
      rw [hc] at b1
      rw [tkC_none hc] at b2
      obtain ⟨s3, c1, c2, c3⟩ := x_takeName (cs := cs) (d := d - 1) (top := top) (sl := sl) (by omega) hT b2 hp
      have K3 : X_er s3 b k := K2.kept (c3 _ (by omega))
      have f3 : ∀ x, x ≠ b + 1 → s3 x = σ x := fun x h1 => (c3 x h1).trans (f2 x h1)
      have V3 := hV.kept (σ' := s3) (fun x h1 _ => f3 x h1)
      have hty := x_typeOf (cs := cs) (d := d - 1) (top := top) (sl := sl) (w := (tkN txt p).getD []) V3.2.2 (tkN_ok p).1 (tkN_ok p).2
      have evar : headP dec pl vs txt E p = (varT vs ((tkN txt p).getD [])).map (fun t => (t, p + (wl txt p).length, 0)) := by
        unfold headP
        rw [if_neg (by rw [hn]; decide), hc]
        dsimp only
        cases tkN txt p with
        | none =>
          show none = (varT vs []).map _
          rw [varT_nil (fun q hq => (V3.2.2.2.2.1 q hq).2.1)]
          rfl
        | some w => rfl
      rw [evar]
      refine ⟨s3, p + (wl txt p).length, k, go2 _ b1 _ (x_icmp_f cd_i90_42 (fun z => z rfl) ?_), c2, wl_len txt p hp, K3, (fun R hR => ?_), fun x h1 _ => f3 x h1⟩
      · refine x_n cd_i90_45 rfl rfl ?_
        refine x_getf cd_i90_46 (by assumption) rfl rfl ?_
        refine x_n cd_i90_49 rfl rfl ?_
        refine x_getf cd_i90_50 (by assumption) rfl rfl ?_
        show am_to cd_t _ _ 90 53 _ _ _ _ _ _
        refine x_callv (as' := []) cd_i90_53 b2.1 (by omega) rfl rfl rfl rfl rfl rfl c1 ?_
        refine x_callv (as' := [.int (ii (n256 ((tkN txt p).getD [])))]) cd_i90_56 V3.2.2.1 (by omega) rfl rfl rfl rfl rfl rfl hty ?_
        cases varT vs ((tkN txt p).getD []) <;> exact x_end cd_i90_59 rfl rfl rfl
      · obtain ⟨t, ht, e⟩ := Option.map_eq_some_iff.mp hR
        rw [← e]
        refine ⟨rfl, rfl, ?_⟩
        unfold varT at ht
        obtain ⟨q, hq, e2⟩ := Option.map_eq_some_iff.mp ht
        rw [← e2]
        exact (V3.2.2.2.2.1 q (List.mem_of_find?_eq_some hq)).2.2.2
    | some c =>
      obtain ⟨e1, e2, e3⟩ := tkC_some hc
      rw [hc] at b1
      rw [e1] at b2
      obtain ⟨s3, c1, c2, c3⟩ := x_take (cs := cs) (d := d - 1) (top := top) (sl := sl) (c := 46) (by omega) b2 hT (by omega) (by decide) (by decide)
      have K3 : X_er s3 b k := K2.kept (c3 _ (by omega))
      have f3 : ∀ x, x ≠ b + 1 → s3 x = σ x := fun x h1 => (c3 x h1).trans (f2 x h1)
      have V3 := hV.kept (σ' := s3) (fun x h1 _ => f3 x h1)
      have go3 : ∀ z : Int32, am_to cd_t cs (d - 1) 34 0 (am_ent 2 [.ref (b + 1), .int (ii 46)]) [] s2 top sl (.inl (some (.int z)), s3, top, sl) → ∀ res, am_to cd_t cs d 90 69 [some (.ref (b + 10)), some (.int (ii dep)), some (.int (ii c)), none] [.int z] s3 top sl res → am_to cd_t cs d 90 0 (am_ent 4 [.ref (b + 10), .int (ii dep)]) [] σ top sl res := by
        intro z hz res hh
        refine go2 _ b1 res (x_icmp_t cd_i90_42 (ii_ne1 (show c < 2147483648 by omega)) ?_)
        refine x_n cd_i90_60 rfl rfl ?_
        refine x_getf cd_i90_61 (by assumption) rfl rfl ?_
        refine x_bi cd_i90_64 (z := ii 46) (by decide) ?_
        show am_to cd_t _ _ 90 66 _ _ _ _ _ _
        refine x_callv (as' := [.int (ii 46)]) cd_i90_66 b2.1 (by omega) rfl rfl rfl rfl rfl rfl hz ?_
        exact hh
      by_cases h46 : txt.getD (p + 1) 0 = 46
      · have hlt := getD_lt h46 (by decide)
        rw [if_pos h46] at c1 c2
        have c2 : X_buf s3 b txt (p + 2) := c2
        obtain ⟨s4, d1, d2, d3⟩ := x_takeName (cs := cs) (d := d - 1) (top := top) (sl := sl) (by omega) hT c2 (by omega)
        have hwl := wl_len txt (p + 2) (by omega)
        have K4 : X_er s4 b k := K3.kept (d3 _ (by omega))
        have f4 : ∀ x, x ≠ b + 1 → s4 x = σ x := fun x h1 => (d3 x h1).trans (f3 x h1)
        have V4 := hV.kept (σ' := s4) (fun x h1 _ => f4 x h1)
        have hka := x_kindAhead (cs := cs) (d := d - 1) (top := top) (sl := sl) (by omega) hcs K4 d2 hT hwl
        have hk2 := kA_lt (txt := txt) (p + 2 + (wl txt (p + 2)).length)
        have hf := x_findStatic (cs := cs) (d := d - 1) (top := top) (sl := sl) (c := c) (k := kA txt (p + 2 + (wl txt (p + 2)).length)) (w := (tkN txt (p + 2)).getD []) (by omega) hcs V4.2.1 hO hr (by omega) (tkN_ok (p + 2)) e2
        obtain ⟨s5, p5, k5, g1, g2, g3, g4, g5, g6⟩ := x_use (cs := cs) (d := d - 1) (top := top) (sl := sl) (by omega) (by omega) hcs hT hO hr hE (o := staL dec pl c (kA txt (p + 2 + (wl txt (p + 2)).length)) ((tkN txt (p + 2)).getD [])) (fun q hq => sta_in hq) V4 K4 d2 hwl
        have esta : headP dec pl vs txt E p = useP dec txt E (staL dec pl c (kA txt (p + 2 + (wl txt (p + 2)).length)) ((tkN txt (p + 2)).getD [])) (p + 2 + (wl txt (p + 2)).length) := by
          unfold headP
          rw [if_neg (by rw [hn]; decide), hc]
          dsimp only
          rw [if_pos h46]
          cases tkN txt (p + 2) with
          | none =>
            show none = useP dec txt E (staL dec pl c _ []) _
            rw [sta_nil hO (kA_lt _)]
            rfl
          | some w => rfl
        rw [esta]
        refine ⟨s5, p5, k5, go3 _ c1 _ (x_if_t cd_i90_69 (fun z => absurd (show (1 : Int32) = 0 from z) (by decide)) ?_), g2, g3, g4, g5, fun x h1 h2 => (g6 x h1 h2).trans (f4 x h1)⟩
        refine x_n cd_i90_74 rfl rfl ?_
        refine x_getf cd_i90_75 (by assumption) rfl rfl ?_
        show am_to cd_t _ _ 90 78 _ _ _ _ _ _
        refine x_callv (as' := []) cd_i90_78 c2.1 (by omega) rfl rfl rfl rfl rfl rfl d1 ?_
        refine x_n cd_i90_81 rfl rfl ?_
        try dsimp only [List.set]
        refine x_n cd_i90_82 rfl rfl ?_
        refine x_n cd_i90_83 rfl rfl ?_
        refine x_getf cd_i90_84 (by assumption) rfl rfl ?_
        refine x_n cd_i90_87 rfl rfl ?_
        refine x_n cd_i90_88 rfl rfl ?_
        show am_to cd_t _ _ 90 89 _ _ _ _ _ _
        refine x_callv (as' := []) cd_i90_89 K4 (by omega) rfl rfl rfl rfl rfl rfl hka ?_
        refine x_n cd_i90_92 rfl rfl ?_
        show am_to cd_t _ _ 90 93 _ _ _ _ _ _
        refine x_callv (as' := [.int (ii c), .ref (ad (kA txt (p + 2 + (wl txt (p + 2)).length))), .int (ii (n256 ((tkN txt (p + 2)).getD [])))]) cd_i90_93 V4.2.1.1 (by omega) rfl rfl rfl rfl rfl rfl hf ?_
        refine x_n cd_i90_96 rfl rfl ?_
        show am_to cd_t _ _ 90 97 _ _ _ _ _ _
        cases hq : staL dec pl c (kA txt (p + 2 + (wl txt (p + 2)).length)) ((tkN txt (p + 2)).getD []) with
        | none =>
          rw [hq] at g1
          refine x_callv (as' := [.null, .int (ii dep)]) cd_i90_97 K4 (by omega) rfl rfl rfl rfl rfl rfl g1 ?_
          exact x_end cd_i90_100 rfl rfl rfl
        | some q =>
          rw [hq] at g1
          refine x_callv (as' := [.ref (ea q.1 q.2), .int (ii dep)]) cd_i90_97 K4 (by omega) rfl rfl rfl rfl rfl rfl g1 ?_
          exact x_end cd_i90_100 rfl rfl rfl
      · rw [if_neg h46] at c1 c2
        have eno : headP dec pl vs txt E p = none := by
          unfold headP
          rw [if_neg (by rw [hn]; decide), hc]
          dsimp only
          rw [if_neg h46]
        rw [eno]
        refine ⟨s3, p + 1, k, go3 _ c1 _ (x_if_f cd_i90_69 (fun z => z rfl) ?_), c2, by omega, K3, (fun R hR => by cases hR), fun x h1 _ => f3 x h1⟩
        refine x_ic cd_i90_72 (z := (-1)) rfl ?_
        show am_to cd_t _ _ 90 73 _ _ _ _ _ _
        exact x_end cd_i90_73 rfl rfl rfl
end EZ
