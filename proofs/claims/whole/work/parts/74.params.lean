/-! a member is read -/
def wPrivate : List Nat := [112, 114, 105, 118, 97, 116, 101, 32]
def wNewP : List Nat := [110, 101, 119, 40]
def wStatic : List Nat := [115, 116, 97, 116, 105, 99, 32]
def wNewS : List Nat := [110, 101, 119, 32]
/-- parameters behind their parenthesis, and the place behind them -/
def pPar (txt : List Nat) (p : Nat) : Option (List Nat × Nat) := if txt.getD p 0 = 41 then some ([], p + 1) else match (tkT txt p).1 with
  | none => none
  | some t => if txt.getD (tkT txt p).2 0 = 44 then (match (tkT txt ((tkT txt p).2 + 1)).1 with
    | none => none
    | some t' => if txt.getD (tkT txt ((tkT txt p).2 + 1)).2 0 = 41 then some ([t, t'], (tkT txt ((tkT txt p).2 + 1)).2 + 1) else none)
    else if txt.getD (tkT txt p).2 0 = 41 then some ([t], (tkT txt p).2 + 1) else none
/-- a colon and a type -/
def pTyp (txt : List Nat) (r : Nat) : Option (Nat × Nat) := if txt.getD r 0 = 58 then (match (tkT txt (r + 1)).1 with
  | none => none
  | some t => some (t, (tkT txt (r + 1)).2)) else none
def pNam2 (txt : List Nat) (p : Nat) (pr st : Bool) : Option (Mem × Nat) := match tkN txt p with
  | none => none
  | some w => if txt.getD (p + (wl txt p).length) 0 = 40 then (match pPar txt (p + (wl txt p).length + 1) with
      | none => none
      | some R => (pTyp txt R.2).map (fun T => ((1, pr, st, w, R.1, T.1), T.2)))
    else (pTyp txt (p + (wl txt p).length)).map (fun T => ((0, pr, st, w, [], T.1), T.2))
def pNam (txt : List Nat) (p : Nat) (pr : Bool) : Option (Mem × Nat) := pNam2 txt (if pre txt p wStatic = true then p + 7 else p) pr (pre txt p wStatic)
def pMak (txt : List Nat) (p : Nat) (pr : Bool) (c : Nat) : Option (Mem × Nat) := (pPar txt p).map (fun R => ((2, pr, false, [], R.1, 3 + c), R.2))
def pMem2 (txt : List Nat) (p c : Nat) (pr : Bool) : Option (Mem × Nat) := if pre txt p wNewP = true then pMak txt (p + 4) pr c else pNam txt p pr
def pMem (txt : List Nat) (p c : Nat) : Option (Mem × Nat) := pMem2 txt (if pre txt p wPrivate = true then p + 8 else p) c (pre txt p wPrivate)
def memR (σ : am_H) (e q kd : Nat) (p s : Bool) (n : Int32) (ts : List Nat) (t : Int32) : Prop := σ e = some (.inr (.inl (7, [.ref kd, .int (b2i p), .int (b2i s), .int n, .ref q, .int (ii ts.length), .int t]))) ∧ ∃ f : Nat → Int32, σ q = some (.inl (.int, 2, .inl f)) ∧ ts.length ≤ 2 ∧ ∀ j, j < ts.length → f j = ii (ts.getD j 0)
theorem memR.at {ad : Nat → Nat} {σ : am_H} {lo hi e q : Nat} {M : Mem} (h : memR σ e q (ad M.1) M.2.1 M.2.2.1 (ii (n256 M.2.2.2.1)) M.2.2.2.2.1 (ii M.2.2.2.2.2)) (h1 : lo ≤ e) (h2 : e < hi) (h3 : lo ≤ q) (h4 : q < hi) : memAt ad σ lo hi e M := by
  obtain ⟨g1, f, g2, g3, g4⟩ := h
  exact ⟨h1, h2, q, f, h3, h4, g1, g2, g3, g4⟩
theorem tkT_pos {txt : List Nat} {p t : Nat} (h : (tkT txt p).1 = some t) (hp : p ≤ txt.length) : (tkT txt p).2 ≤ txt.length := tkT_len hp
theorem getD_lt {txt : List Nat} {p c : Nat} (h : txt.getD p 0 = c) (hc : 0 < c) : p < txt.length := by
  by_cases h9 : p < txt.length
  · exact h9
  · rw [getD_out (by omega)] at h
    omega
theorem pPar_some {txt : List Nat} {p : Nat} {R : List Nat × Nat} (h : pPar txt p = some R) : R.2 ≤ txt.length ∧ R.1.length ≤ 2 ∧ ∀ t ∈ R.1, t < 13 := by
  unfold pPar at h
  split at h
  · next hc =>
    have := getD_lt hc (by decide)
    cases h
    exact ⟨by show p + 1 ≤ _; omega, by show 0 ≤ 2; decide, fun t ht => by cases ht⟩
  · split at h
    · cases h
    · next t ht =>
      have ht' := tkT_lt ht
      split at h
      · split at h
        · cases h
        · next t' ht2 =>
          have ht2' := tkT_lt ht2
          split at h
          · next hc =>
            have := getD_lt hc (by decide)
            cases h
            refine ⟨by show _ + 1 ≤ _; omega, by show 2 ≤ 2; decide, fun x hx => ?_⟩
            rcases List.mem_cons.mp hx with e | e
            · rw [e]; exact ht'
            · rw [List.mem_singleton.mp e]; exact ht2'
          · cases h
      · split at h
        · next hc =>
          have := getD_lt hc (by decide)
          cases h
          refine ⟨by show _ + 1 ≤ _; omega, by show 1 ≤ 2; decide, fun x hx => ?_⟩
          rw [List.mem_singleton.mp hx]
          exact ht'
        · cases h
theorem pTyp_some {txt : List Nat} {r : Nat} {T : Nat × Nat} (h : pTyp txt r = some T) : T.1 < 13 ∧ T.2 ≤ txt.length := by
  unfold pTyp at h
  split at h
  · next hc =>
    have := getD_lt hc (by decide)
    split at h
    · cases h
    · next t ht =>
      cases h
      exact ⟨tkT_lt ht, tkT_len (by omega)⟩
  · cases h
theorem pNam2_some {txt : List Nat} {p : Nat} {pr st : Bool} {R : Mem × Nat} (h : pNam2 txt p pr st = some R) : memOk R.1 ∧ R.2 ≤ txt.length := by
  unfold pNam2 at h
  split at h
  · cases h
  · next w hw =>
    obtain ⟨w0, w1, w2, w3⟩ := tkN_some hw
    split at h
    · split at h
      · cases h
      · next S hS =>
        obtain ⟨k1, k2, k3⟩ := pPar_some hS
        obtain ⟨T, hT, e⟩ := Option.map_eq_some_iff.mp h
        obtain ⟨t1, t2⟩ := pTyp_some hT
        rw [← e]
        exact ⟨⟨by show 1 < 3; decide, ⟨w1, w3⟩, fun z => absurd z (show ¬ 1 = 2 by decide), fun _ => w2, k2, k3, t1, fun z => absurd z (show ¬ 1 = 0 by decide)⟩, t2⟩
    · obtain ⟨T, hT, e⟩ := Option.map_eq_some_iff.mp h
      obtain ⟨t1, t2⟩ := pTyp_some hT
      rw [← e]
      exact ⟨⟨by show 0 < 3; decide, ⟨w1, w3⟩, fun z => absurd z (show ¬ 0 = 2 by decide), fun _ => w2, by show 0 ≤ 2; decide, (fun t ht => by cases ht), t1, fun _ => rfl⟩, t2⟩
theorem pMak_some {txt : List Nat} {p c : Nat} {pr : Bool} {R : Mem × Nat} (hc : c < 10) (h : pMak txt p pr c = some R) : memOk R.1 ∧ R.2 ≤ txt.length := by
  unfold pMak at h
  obtain ⟨S, hS, e⟩ := Option.map_eq_some_iff.mp h
  obtain ⟨k1, k2, k3⟩ := pPar_some hS
  rw [← e]
  exact ⟨⟨by show 2 < 3; decide, ⟨(fun c hc => by cases hc), by show 0 ≤ 4; decide⟩, fun _ => ⟨rfl, rfl⟩, fun z => absurd rfl z, k2, k3, by show 3 + c < 13; omega, fun z => absurd z (show ¬ 2 = 0 by decide)⟩, k1⟩
theorem pMem2_some {txt : List Nat} {p c : Nat} {pr : Bool} {R : Mem × Nat} (hc : c < 10) (h : pMem2 txt p c pr = some R) : memOk R.1 ∧ R.2 ≤ txt.length := by
  unfold pMem2 at h
  split at h
  · exact pMak_some hc h
  · exact pNam2_some h
theorem pMem_some {txt : List Nat} {p c : Nat} {R : Mem × Nat} (hc : c < 10) (h : pMem txt p c = some R) : memOk R.1 ∧ R.2 ≤ txt.length := pMem2_some hc h
section RM
variable {cs : Nat → Value} {d b top sl : Nat} {σ : am_H} {ad : Nat → Nat} {txt : List Nat} {p : Nat}
theorem fv_bool (s : Bool) : am_fv .boolean (.int (b2i s)) = true := by cases s <;> rfl
theorem x_memInit {e kd : Nat} {n : Int32} {pr s : Bool} (hd : 0 < d) (he : e < top) (h : σ e = some (.inr (.inl (7, [.null, .int 0, .int 0, .int 0, .null, .int 0, .int 0])))) :
    ∃ σ', am_to cd_t cs d 48 0 (am_ent 5 [.ref e, .ref kd, .int (b2i pr), .int (b2i s), .int n]) [] σ top sl (.inl none, σ', top + 1, sl + 2) ∧ memR σ' e top kd pr s n [] 0 ∧ ∀ x, x ≠ e → x ≠ top → σ' x = σ x := by
  obtain ⟨s0, hs0⟩ : ∃ z, z = am_up σ top (.inl (.int, 2, .inl fun _ => 0)) := ⟨_, rfl⟩
  have h0 : s0 e = some (.inr (.inl (7, [.null, .int 0, .int 0, .int 0, .null, .int 0, .int 0]))) := by rw [hs0, am_up_ne _ _ (by omega)]; exact h
  have t0 : s0 top = some (.inl (.int, 2, .inl fun _ => 0)) := by rw [hs0]; exact am_up_self _ _ _
  have f0 : ∀ x, x ≠ e → x ≠ top → s0 x = σ x := fun x h1 h2 => by rw [hs0, am_up_ne _ _ h2]
  obtain ⟨s1, hs1⟩ : ∃ z, z = am_up s0 e (.inr (.inl (7, [.null, .int 0, .int 0, .int 0, .ref top, .int 0, .int 0]))) := ⟨_, rfl⟩
  have h1 : s1 e = some (.inr (.inl (7, [.null, .int 0, .int 0, .int 0, .ref top, .int 0, .int 0]))) := by rw [hs1]; exact am_up_self _ _ _
  obtain ⟨s2, hs2⟩ : ∃ z, z = am_up s1 e (.inr (.inl (7, [.ref kd, .int 0, .int 0, .int 0, .ref top, .int 0, .int 0]))) := ⟨_, rfl⟩
  have h2 : s2 e = some (.inr (.inl (7, [.ref kd, .int 0, .int 0, .int 0, .ref top, .int 0, .int 0]))) := by rw [hs2]; exact am_up_self _ _ _
  obtain ⟨s3, hs3⟩ : ∃ z, z = am_up s2 e (.inr (.inl (7, [.ref kd, .int (b2i pr), .int 0, .int 0, .ref top, .int 0, .int 0]))) := ⟨_, rfl⟩
  have h3 : s3 e = some (.inr (.inl (7, [.ref kd, .int (b2i pr), .int 0, .int 0, .ref top, .int 0, .int 0]))) := by rw [hs3]; exact am_up_self _ _ _
  obtain ⟨s4, hs4⟩ : ∃ z, z = am_up s3 e (.inr (.inl (7, [.ref kd, .int (b2i pr), .int (b2i s), .int 0, .ref top, .int 0, .int 0]))) := ⟨_, rfl⟩
  have h4 : s4 e = some (.inr (.inl (7, [.ref kd, .int (b2i pr), .int (b2i s), .int 0, .ref top, .int 0, .int 0]))) := by rw [hs4]; exact am_up_self _ _ _
  have fr : ∀ x, x ≠ e → s4 x = s0 x := fun x hx => by rw [hs4, am_up_ne _ _ hx, hs3, am_up_ne _ _ hx, hs2, am_up_ne _ _ hx, hs1, am_up_ne _ _ hx]
  refine ⟨am_up s4 e (.inr (.inl (7, [.ref kd, .int (b2i pr), .int (b2i s), .int n, .ref top, .int 0, .int 0]))), ?_, ⟨am_up_self _ _ _, fun _ => 0, by rw [am_up_ne _ _ (by omega), fr _ (by omega)]; exact t0, by decide, fun j hj => absurd hj (Nat.not_lt_zero j)⟩, fun x g1 g2 => by rw [am_up_ne _ _ g1, fr x g1]; exact f0 x g1 g2⟩
  refine x_n cd_i48_0 rfl rfl ?_
  refine x_obj cd_i48_1 (by omega) rfl ?_
  refine x_n cd_i48_4 rfl rfl ?_
  refine x_ic cd_i48_5 (z := ii 2) rfl ?_
  show am_to cd_t _ _ 48 6 _ _ _ _ _ _
  refine x_newia cd_i48_6 (n := 2) (by decide) ?_
  refine hs0 ▸ ?_
  refine x_putf cd_i48_8 (fs' := [.null, .int 0, .int 0, .int 0, .ref top, .int 0, .int 0]) h0 rfl rfl rfl ?_
  refine hs1 ▸ ?_
  refine x_n cd_i48_11 rfl rfl ?_
  refine x_n cd_i48_12 rfl rfl ?_
  show am_to cd_t _ _ 48 13 _ _ _ _ _ _
  refine x_putf cd_i48_13 (fs' := [.ref kd, .int 0, .int 0, .int 0, .ref top, .int 0, .int 0]) h1 rfl rfl rfl ?_
  refine hs2 ▸ ?_
  refine x_n cd_i48_16 rfl rfl ?_
  refine x_n cd_i48_17 rfl rfl ?_
  show am_to cd_t _ _ 48 18 _ _ _ _ _ _
  refine x_putf cd_i48_18 (fs' := [.ref kd, .int (b2i pr), .int 0, .int 0, .ref top, .int 0, .int 0]) h2 rfl (fv_bool pr) rfl ?_
  refine hs3 ▸ ?_
  refine x_n cd_i48_21 rfl rfl ?_
  refine x_n cd_i48_22 rfl rfl ?_
  show am_to cd_t _ _ 48 23 _ _ _ _ _ _
  refine x_putf cd_i48_23 (fs' := [.ref kd, .int (b2i pr), .int (b2i s), .int 0, .ref top, .int 0, .int 0]) h3 rfl (fv_bool s) rfl ?_
  refine hs4 ▸ ?_
  refine x_n cd_i48_26 rfl rfl ?_
  refine x_n cd_i48_27 rfl rfl ?_
  show am_to cd_t _ _ 48 29 _ _ _ _ _ _
  refine x_putf cd_i48_29 (fs' := [.ref kd, .int (b2i pr), .int (b2i s), .int n, .ref top, .int 0, .int 0]) h4 rfl rfl rfl ?_
  exact x_end cd_i48_32 rfl rfl rfl
theorem x_addPar {e q kd t : Nat} {n ty : Int32} {pr s : Bool} {ts : List Nat} (h : memR σ e q kd pr s n ts ty) (hl : ts.length < 2) (hne : e ≠ q) :
    ∃ σ', am_to cd_t cs d 52 0 (am_ent 2 [.ref e, .int (ii t)]) [] σ top sl (.inl none, σ', top, sl) ∧ memR σ' e q kd pr s n (ts ++ [t]) ty ∧ ∀ x, x ≠ e → x ≠ q → σ' x = σ x := by
  obtain ⟨h1, f, h2, h3, h4⟩ := h
  have h1' : am_up σ q (.inl (.int, 2, .inl (upd f ts.length (ii t)))) e = some (.inr (.inl (7, [.ref kd, .int (b2i pr), .int (b2i s), .int n, .ref q, .int (ii ts.length), .int ty]))) := by rw [am_up_ne _ _ hne]; exact h1
  have el : (ts ++ [t]).length = ts.length + 1 := List.length_append
  refine ⟨am_up (am_up σ q (.inl (.int, 2, .inl (upd f ts.length (ii t))))) e (.inr (.inl (7, [.ref kd, .int (b2i pr), .int (b2i s), .int n, .ref q, .int (ii (ts.length + 1)), .int ty]))), ?_, ⟨by rw [am_up_self, el], upd f ts.length (ii t), by rw [am_up_ne _ _ (fun z => hne z.symm), am_up_self], by omega, fun j hj => ?_⟩, fun x g1 g2 => by rw [am_up_ne _ _ g1, am_up_ne _ _ g2]⟩
  · refine x_n cd_i52_0 rfl rfl ?_
    refine x_getf cd_i52_1 (by assumption) rfl rfl ?_
    refine x_n cd_i52_4 rfl rfl ?_
    refine x_getf cd_i52_5 (by assumption) rfl rfl ?_
    show am_to cd_t _ _ 52 8 _ _ _ _ _ _
    refine x_len cd_i52_8 h2 ?_
    refine x_icmp_f cd_i52_9 (fun z => by have := (ii_le (by omega) (by omega)).mp (show ii 2 ≤ ii ts.length from z); omega) ?_
    refine x_n cd_i52_12 rfl rfl ?_
    refine x_getf cd_i52_13 (by assumption) rfl rfl ?_
    refine x_n cd_i52_16 rfl rfl ?_
    refine x_getf cd_i52_17 (by assumption) rfl rfl ?_
    refine x_n cd_i52_20 rfl rfl ?_
    show am_to cd_t _ _ 52 21 _ _ _ _ _ _
    refine x_iastore cd_i52_21 h2 hl (by decide) ?_
    refine x_n cd_i52_22 rfl rfl ?_
    refine x_n cd_i52_23 rfl rfl ?_
    refine x_getf cd_i52_24 (by assumption) rfl rfl ?_
    refine x_ic cd_i52_27 (z := ii 1) rfl ?_
    show am_to cd_t _ _ 52 28 _ _ _ _ _ _
    refine x_iadd cd_i52_28 (ii_add _ _) ?_
    refine x_putf cd_i52_29 (fs' := [.ref kd, .int (b2i pr), .int (b2i s), .int n, .ref q, .int (ii (ts.length + 1)), .int ty]) h1' rfl rfl rfl ?_
    exact x_end cd_i52_32 rfl rfl rfl
  · unfold upd
    rw [el] at hj
    rw [List.getD_eq_getElem?_getD]
    by_cases e : j = ts.length
    · rw [if_pos e, e, List.getElem?_append_right (Nat.le_refl _), Nat.sub_self]
      rfl
    · rw [if_neg e, List.getElem?_append_left (by omega), ← List.getD_eq_getElem?_getD]
      exact h4 j (by omega)
theorem memR.kept {σ' : am_H} {e q kd : Nat} {n ty : Int32} {pr s : Bool} {ts : List Nat} (h : memR σ e q kd pr s n ts ty) (h1 : σ' e = σ e) (h2 : σ' q = σ q) : memR σ' e q kd pr s n ts ty := by
  obtain ⟨g1, f, g2, g3⟩ := h
  exact ⟨h1.trans g1, f, h2.trans g2, g3⟩
theorem x_params {e q kd : Nat} {n ty : Int32} {pr s : Bool} (hd : 2 < d) (hR : σ (b + 9) = some (.inr (.inl (5, [.ref (b + 1), .ref (b + 3)])))) (hB : X_buf σ b txt p) (hT : ∀ c ∈ txt, cok c) (hp : p ≤ txt.length) (h : memR σ e q kd pr s n [] ty) (hne : e ≠ q) (he : b + 88 ≤ e) (hq : b + 88 ≤ q) :
    ∃ (σ' : am_H) (p' : Nat) (ts : List Nat), am_to cd_t cs d 49 0 (am_ent 4 [.ref (b + 9), .ref e]) [] σ top sl (.inl (some (.int (b2i (pPar txt p).isSome))), σ', top, sl) ∧ X_buf σ' b txt p' ∧ p' ≤ txt.length ∧ memR σ' e q kd pr s n ts ty ∧ (∀ R, pPar txt p = some R → R = (ts, p')) ∧ ∀ x, x ≠ b + 1 → x ≠ e → x ≠ q → σ' x = σ x := by
  obtain ⟨s1, a1, a2, a3⟩ := x_take (cs := cs) (d := d - 1) (top := top) (sl := sl) (c := 41) (by omega) hB hT hp (by decide) (by decide)
  have m1 : memR s1 e q kd pr s n [] ty := h.kept (a3 _ (by omega)) (a3 _ (by omega))
  have r1 : s1 (b + 9) = _ := (a3 _ (by omega)).trans hR
  unfold pPar
  by_cases hc : txt.getD p 0 = 41
  · have := getD_lt hc (by decide)
    rw [if_pos hc] at a1 a2
    rw [if_pos hc]
    refine ⟨s1, p + 1, [], ?_, a2, by omega, m1, (fun R hR => (Option.some.inj hR).symm), fun x g1 g2 g3 => a3 x g1⟩
    refine x_n cd_i49_0 rfl rfl ?_
    refine x_getf cd_i49_1 (by assumption) rfl rfl ?_
    refine x_bi cd_i49_4 (z := ii 41) (by decide) ?_
    show am_to cd_t _ _ 49 6 _ _ _ _ _ _
    refine x_callv (as' := [.int (ii 41)]) cd_i49_6 hB.1 (by omega) rfl rfl rfl rfl rfl rfl a1 ?_
    refine x_if_f cd_i49_9 (fun z => absurd (show (1 : Int32) = 0 from z) (by decide)) ?_
    refine x_ic cd_i49_12 (z := ii 1) rfl ?_
    show am_to cd_t _ _ 49 13 _ _ _ _ _ _
    exact x_end cd_i49_13 rfl rfl rfl
  rw [if_neg hc] at a1 a2
  rw [if_neg hc]
  obtain ⟨s2, b1, b2, b3⟩ := x_takeType (cs := cs) (d := d - 1) (top := top) (sl := sl) (by omega) hT a2 hp
  have m2 : memR s2 e q kd pr s n [] ty := m1.kept (b3 _ (by omega)) (b3 _ (by omega))
  have r2 : s2 (b + 9) = _ := (b3 _ (by omega)).trans r1
  have hl1 := tkT_len (txt := txt) (p := p) hp
  have go1 : ∀ res, am_to cd_t cs d 49 31 [some (.ref (b + 9)), some (.ref e), some (.int (ii 0)), some (.int (oi (tkT txt p).1))] [.int (-1), .int (oi (tkT txt p).1)] s2 top sl res → am_to cd_t cs d 49 0 (am_ent 4 [.ref (b + 9), .ref e]) [] σ top sl res := by
    intro res hh
    refine x_n cd_i49_0 rfl rfl ?_
    refine x_getf cd_i49_1 (by assumption) rfl rfl ?_
    refine x_bi cd_i49_4 (z := ii 41) (by decide) ?_
    show am_to cd_t _ _ 49 6 _ _ _ _ _ _
    refine x_callv (as' := [.int (ii 41)]) cd_i49_6 hB.1 (by omega) rfl rfl rfl rfl rfl rfl a1 ?_
    refine x_if_t cd_i49_9 rfl ?_
    refine x_ic cd_i49_14 (z := ii 0) rfl ?_
    refine x_n cd_i49_15 rfl rfl ?_
    try dsimp only [List.set]
    refine x_n cd_i49_16 rfl rfl ?_
    refine x_ic cd_i49_17 (z := ii 2) rfl ?_
    show am_to cd_t _ _ 49 18 _ _ _ _ _ _
    refine x_icmp_f cd_i49_18 (fun z => absurd (show ii 2 ≤ ii 0 from z) (by decide)) ?_
    refine x_n cd_i49_21 rfl rfl ?_
    refine x_getf cd_i49_22 (by assumption) rfl rfl ?_
    show am_to cd_t _ _ 49 25 _ _ _ _ _ _
    refine x_callv (as' := []) cd_i49_25 a2.1 (by omega) rfl rfl rfl rfl rfl rfl b1 ?_
    refine x_n cd_i49_28 rfl rfl ?_
    try dsimp only [List.set]
    refine x_n cd_i49_29 rfl rfl ?_
    refine x_ic cd_i49_30 (z := (-1)) rfl ?_
    show am_to cd_t _ _ 49 31 _ _ _ _ _ _
    exact hh
  cases ht : (tkT txt p).1 with
  | none =>
    rw [ht] at go1
    refine ⟨s2, _, [], go1 _ ?_, b2, hl1, m2, (fun R hR => by cases hR), fun x g1 g2 g3 => (b3 x g1).trans (a3 x g1)⟩
    refine x_icmp_f cd_i49_31 (fun z => z rfl) ?_
    refine x_ic cd_i49_34 (z := ii 0) rfl ?_
    show am_to cd_t _ _ 49 35 _ _ _ _ _ _
    exact x_end cd_i49_35 rfl rfl rfl
  | some t =>
    rw [ht] at go1
    have ht13 := tkT_lt ht
    obtain ⟨s3, c1, c2, c3⟩ := x_addPar (cs := cs) (d := d - 1) (top := top) (sl := sl) (t := t) m2 (by decide) hne
    have B3 : X_buf s3 b txt (tkT txt p).2 := b2.kept (c3 _ (by omega) (by omega)) (c3 _ (by omega) (by omega))
    have r3 : s3 (b + 9) = _ := (c3 _ (by omega) (by omega)).trans r2
    obtain ⟨s4, d1, d2, d3⟩ := x_take (cs := cs) (d := d - 1) (top := top) (sl := sl) (c := 44) (by omega) B3 hT hl1 (by decide) (by decide)
    have m4 : memR s4 e q kd pr s n [t] ty := c2.kept (d3 _ (by omega)) (d3 _ (by omega))
    have r4 : s4 (b + 9) = _ := (d3 _ (by omega)).trans r3
    have f4 : ∀ x, x ≠ b + 1 → x ≠ e → x ≠ q → s4 x = σ x := fun x g1 g2 g3 => (d3 x g1).trans ((c3 x g2 g3).trans ((b3 x g1).trans (a3 x g1)))
    have go2 : ∀ res, am_to cd_t cs d 49 50 [some (.ref (b + 9)), some (.ref e), some (.int (ii 0)), some (.int (ii t))] [.int (if txt.getD (tkT txt p).2 0 = 44 then 1 else 0)] s4 top sl res → am_to cd_t cs d 49 0 (am_ent 4 [.ref (b + 9), .ref e]) [] σ top sl res := by
      intro res hh
      refine go1 res (x_icmp_t cd_i49_31 (ii_ne1 (by omega)) ?_)
      refine x_n cd_i49_36 rfl rfl ?_
      refine x_n cd_i49_37 rfl rfl ?_
      show am_to cd_t _ _ 49 38 _ _ _ _ _ _
      refine x_callv (as' := [.int (ii t)]) (r := none) cd_i49_38 m2.1 (by omega) rfl rfl rfl rfl rfl rfl c1 ?_
      refine x_n cd_i49_41 rfl rfl ?_
      refine x_getf cd_i49_42 (by assumption) rfl rfl ?_
      refine x_bi cd_i49_45 (z := ii 44) (by decide) ?_
      show am_to cd_t _ _ 49 47 _ _ _ _ _ _
      refine x_callv (as' := [.int (ii 44)]) cd_i49_47 B3.1 (by omega) rfl rfl rfl rfl rfl rfl d1 ?_
      exact hh
    dsimp only
    by_cases hk : txt.getD (tkT txt p).2 0 = 44
    · have hlt := getD_lt hk (by decide)
      rw [if_pos hk] at d2 go2
      rw [if_pos hk]
      obtain ⟨s5, e1, e2, e3⟩ := x_takeType (cs := cs) (d := d - 1) (top := top) (sl := sl) (by omega) hT d2 (by omega)
      have m5 : memR s5 e q kd pr s n [t] ty := m4.kept (e3 _ (by omega)) (e3 _ (by omega))
      have r5 : s5 (b + 9) = _ := (e3 _ (by omega)).trans r4
      have hl2 := tkT_len (txt := txt) (p := (tkT txt p).2 + 1) (by omega)
      have go3 : ∀ res, am_to cd_t cs d 49 31 [some (.ref (b + 9)), some (.ref e), some (.int (ii 1)), some (.int (oi (tkT txt ((tkT txt p).2 + 1)).1))] [.int (-1), .int (oi (tkT txt ((tkT txt p).2 + 1)).1)] s5 top sl res → am_to cd_t cs d 49 0 (am_ent 4 [.ref (b + 9), .ref e]) [] σ top sl res := by
        intro res hh
        refine go2 res (x_if_t cd_i49_50 (fun z => absurd (show (1 : Int32) = 0 from z) (by decide)) ?_)
        refine x_iinc cd_i49_63 rfl (ii_add _ 1) rfl ?_
        refine x_n cd_i49_66 rfl rfl ?_
        refine x_n cd_i49_16 rfl rfl ?_
        refine x_ic cd_i49_17 (z := ii 2) rfl ?_
        show am_to cd_t _ _ 49 18 _ _ _ _ _ _
        refine x_icmp_f cd_i49_18 (fun z => absurd (show ii 2 ≤ ii 1 from z) (by decide)) ?_
        refine x_n cd_i49_21 rfl rfl ?_
        refine x_getf cd_i49_22 (by assumption) rfl rfl ?_
        show am_to cd_t _ _ 49 25 _ _ _ _ _ _
        refine x_callv (as' := []) cd_i49_25 d2.1 (by omega) rfl rfl rfl rfl rfl rfl e1 ?_
        refine x_n cd_i49_28 rfl rfl ?_
        try dsimp only [List.set]
        refine x_n cd_i49_29 rfl rfl ?_
        refine x_ic cd_i49_30 (z := (-1)) rfl ?_
        show am_to cd_t _ _ 49 31 _ _ _ _ _ _
        exact hh
      cases ht2 : (tkT txt ((tkT txt p).2 + 1)).1 with
      | none =>
        rw [ht2] at go3
        refine ⟨s5, _, [t], go3 _ ?_, e2, hl2, m5, (fun R hR => by cases hR), fun x g1 g2 g3 => (e3 x g1).trans (f4 x g1 g2 g3)⟩
        refine x_icmp_f cd_i49_31 (fun z => z rfl) ?_
        refine x_ic cd_i49_34 (z := ii 0) rfl ?_
        show am_to cd_t _ _ 49 35 _ _ _ _ _ _
        exact x_end cd_i49_35 rfl rfl rfl
      | some t' =>
        rw [ht2] at go3
        have ht13' := tkT_lt ht2
        obtain ⟨s6, k1, k2, k3⟩ := x_addPar (cs := cs) (d := d - 1) (top := top) (sl := sl) (t := t') m5 (show 1 < 2 by decide) hne
        have B6 : X_buf s6 b txt (tkT txt ((tkT txt p).2 + 1)).2 := e2.kept (k3 _ (by omega) (by omega)) (k3 _ (by omega) (by omega))
        have r6 : s6 (b + 9) = _ := (k3 _ (by omega) (by omega)).trans r5
        obtain ⟨s7, l1, l2, l3⟩ := x_take (cs := cs) (d := d - 1) (top := top) (sl := sl) (c := 44) (by omega) B6 hT hl2 (by decide) (by decide)
        have m7 : memR s7 e q kd pr s n [t, t'] ty := k2.kept (l3 _ (by omega)) (l3 _ (by omega))
        have r7 : s7 (b + 9) = _ := (l3 _ (by omega)).trans r6
        have f7 : ∀ x, x ≠ b + 1 → x ≠ e → x ≠ q → s7 x = σ x := fun x g1 g2 g3 => (l3 x g1).trans ((k3 x g2 g3).trans ((e3 x g1).trans (f4 x g1 g2 g3)))
        have go4 : ∀ res, am_to cd_t cs d 49 50 [some (.ref (b + 9)), some (.ref e), some (.int (ii 1)), some (.int (ii t'))] [.int (if txt.getD (tkT txt ((tkT txt p).2 + 1)).2 0 = 44 then 1 else 0)] s7 top sl res → am_to cd_t cs d 49 0 (am_ent 4 [.ref (b + 9), .ref e]) [] σ top sl res := by
          intro res hh
          refine go3 res (x_icmp_t cd_i49_31 (ii_ne1 (by omega)) ?_)
          refine x_n cd_i49_36 rfl rfl ?_
          refine x_n cd_i49_37 rfl rfl ?_
          show am_to cd_t _ _ 49 38 _ _ _ _ _ _
          refine x_callv (as' := [.int (ii t')]) (r := none) cd_i49_38 m5.1 (by omega) rfl rfl rfl rfl rfl rfl k1 ?_
          refine x_n cd_i49_41 rfl rfl ?_
          refine x_getf cd_i49_42 (by assumption) rfl rfl ?_
          refine x_bi cd_i49_45 (z := ii 44) (by decide) ?_
          show am_to cd_t _ _ 49 47 _ _ _ _ _ _
          refine x_callv (as' := [.int (ii 44)]) cd_i49_47 B6.1 (by omega) rfl rfl rfl rfl rfl rfl l1 ?_
          exact hh
        dsimp only
        by_cases hk2 : txt.getD (tkT txt ((tkT txt p).2 + 1)).2 0 = 44
        · have hlt2 := getD_lt hk2 (by decide)
          rw [if_pos hk2] at l2 go4
          rw [if_neg (by rw [hk2]; decide)]
          refine ⟨s7, _, [t, t'], go4 _ ?_, l2, by omega, m7, (fun R hR => by cases hR), f7⟩
          refine x_if_t cd_i49_50 (fun z => absurd (show (1 : Int32) = 0 from z) (by decide)) ?_
          refine x_iinc cd_i49_63 rfl (ii_add _ 1) rfl ?_
          refine x_n cd_i49_66 rfl rfl ?_
          refine x_n cd_i49_16 rfl rfl ?_
          refine x_ic cd_i49_17 (z := ii 2) rfl ?_
          show am_to cd_t _ _ 49 18 _ _ _ _ _ _
          refine x_icmp_t cd_i49_18 (show ii 2 ≤ ii 2 by decide) ?_
          refine x_ic cd_i49_69 (z := ii 0) rfl ?_
          show am_to cd_t _ _ 49 70 _ _ _ _ _ _
          exact x_end cd_i49_70 rfl rfl rfl
        · rw [if_neg hk2] at l2 go4
          obtain ⟨s8, o1, o2, o3⟩ := x_take (cs := cs) (d := d - 1) (top := top) (sl := sl) (c := 41) (by omega) l2 hT hl2 (by decide) (by decide)
          have m8 : memR s8 e q kd pr s n [t, t'] ty := m7.kept (o3 _ (by omega)) (o3 _ (by omega))
          have fin : ∀ z : Int32, am_to cd_t cs (d - 1) 34 0 (am_ent 2 [.ref (b + 1), .int (ii 41)]) [] s7 top sl (.inl (some (.int z)), s8, top, sl) → (z = 0 ∨ z = 1) → am_to cd_t cs d 49 0 (am_ent 4 [.ref (b + 9), .ref e]) [] σ top sl (.inl (some (.int z)), s8, top, sl) := by
            intro z hz hz2
            refine go4 _ (x_if_f cd_i49_50 (fun z => z rfl) ?_)
            refine x_n cd_i49_53 rfl rfl ?_
            refine x_getf cd_i49_54 (by assumption) rfl rfl ?_
            refine x_bi cd_i49_57 (z := ii 41) (by decide) ?_
            show am_to cd_t _ _ 49 59 _ _ _ _ _ _
            refine x_callv (as' := [.int (ii 41)]) cd_i49_59 l2.1 (by omega) rfl rfl rfl rfl rfl rfl hz ?_
            rcases hz2 with rfl | rfl <;> exact x_end cd_i49_62 rfl rfl rfl
          by_cases hk3 : txt.getD (tkT txt ((tkT txt p).2 + 1)).2 0 = 41
          · have hlt3 := getD_lt hk3 (by decide)
            rw [if_pos hk3] at o1 o2
            rw [if_pos hk3]
            exact ⟨s8, _, [t, t'], fin _ o1 (Or.inr rfl), o2, by omega, m8, (fun R hR => (Option.some.inj hR).symm), fun x g1 g2 g3 => (o3 x g1).trans (f7 x g1 g2 g3)⟩
          · rw [if_neg hk3] at o1 o2
            rw [if_neg hk3]
            exact ⟨s8, _, [t, t'], fin _ o1 (Or.inl rfl), o2, by omega, m8, (fun R hR => by cases hR), fun x g1 g2 g3 => (o3 x g1).trans (f7 x g1 g2 g3)⟩
    · rw [if_neg hk] at d2 go2
      rw [if_neg hk]
      obtain ⟨s8, o1, o2, o3⟩ := x_take (cs := cs) (d := d - 1) (top := top) (sl := sl) (c := 41) (by omega) d2 hT hl1 (by decide) (by decide)
      have m8 : memR s8 e q kd pr s n [t] ty := m4.kept (o3 _ (by omega)) (o3 _ (by omega))
      have fin : ∀ z : Int32, am_to cd_t cs (d - 1) 34 0 (am_ent 2 [.ref (b + 1), .int (ii 41)]) [] s4 top sl (.inl (some (.int z)), s8, top, sl) → (z = 0 ∨ z = 1) → am_to cd_t cs d 49 0 (am_ent 4 [.ref (b + 9), .ref e]) [] σ top sl (.inl (some (.int z)), s8, top, sl) := by
        intro z hz hz2
        refine go2 _ (x_if_f cd_i49_50 (fun z => z rfl) ?_)
        refine x_n cd_i49_53 rfl rfl ?_
        refine x_getf cd_i49_54 (by assumption) rfl rfl ?_
        refine x_bi cd_i49_57 (z := ii 41) (by decide) ?_
        show am_to cd_t _ _ 49 59 _ _ _ _ _ _
        refine x_callv (as' := [.int (ii 41)]) cd_i49_59 d2.1 (by omega) rfl rfl rfl rfl rfl rfl hz ?_
        rcases hz2 with rfl | rfl <;> exact x_end cd_i49_62 rfl rfl rfl
      by_cases hk3 : txt.getD (tkT txt p).2 0 = 41
      · have hlt3 := getD_lt hk3 (by decide)
        rw [if_pos hk3] at o1 o2
        rw [if_pos hk3]
        exact ⟨s8, _, [t], fin _ o1 (Or.inr rfl), o2, by omega, m8, (fun R hR => (Option.some.inj hR).symm), fun x g1 g2 g3 => (o3 x g1).trans (f4 x g1 g2 g3)⟩
      · rw [if_neg hk3] at o1 o2
        rw [if_neg hk3]
        exact ⟨s8, _, [t], fin _ o1 (Or.inl rfl), o2, by omega, m8, (fun R hR => by cases hR), fun x g1 g2 g3 => (o3 x g1).trans (f4 x g1 g2 g3)⟩
end RM
