/-! what the desk's search keeps -/
theorem room_all : ∀ mark, mark < 26 → ∀ k, k < 2 → ∀ l, l < 25 → (ii 24 - ii mark - ii 2 * ii k - ii 1 < ii l ↔ 24 < mark + 2 * k + 1 + l) := by decide
/-- the beginning with the arguments so far, and what goes before the next one -/
def sepT (as : List Ent) : List Nat := if as = [] then [] else argT as ++ [44]
theorem argT_cons (u : Ent) (bs : List Ent) : argT (u :: bs) = u.1 ++ (if bs = [] then [] else 44 :: argT bs) := by
  cases bs with
  | nil => show u.1 = u.1 ++ []; rw [List.append_nil]
  | cons v r => rfl
theorem argT_app : ∀ (as : List Ent) (u : Ent) (bs : List Ent), argT (as ++ u :: bs) = sepT as ++ argT (u :: bs)
  | [], u, bs => rfl
  | [a], u, bs => by
    show a.1 ++ 44 :: argT (u :: bs) = (a.1 ++ [44]) ++ argT (u :: bs)
    rw [List.append_assoc]
    rfl
  | a :: a' :: as, u, bs => by
    have ih := argT_app (a' :: as) u bs
    show a.1 ++ 44 :: argT ((a' :: as) ++ u :: bs) = ((a.1 ++ 44 :: argT (a' :: as)) ++ [44]) ++ argT (u :: bs)
    rw [ih]
    unfold sepT
    rw [if_neg (fun z => by cases z), List.append_assoc, List.append_assoc, List.append_assoc]
    rfl
theorem sepT_pre (as : List Ent) : ∃ r, sepT as = argT as ++ r := by
  unfold sepT
  split
  · next h => exact ⟨[], by rw [h]; rfl⟩
  · exact ⟨_, rfl⟩
theorem argT_pre (as bs : List Ent) : ∃ r, argT (as ++ bs) = argT as ++ r := by
  cases bs with
  | nil => exact ⟨[], by rw [List.append_nil, List.append_nil]⟩
  | cons u bs =>
    obtain ⟨r, hr⟩ := sepT_pre as
    exact ⟨r ++ argT (u :: bs), by rw [argT_app, hr, List.append_assoc]⟩
theorem argT_len : ∀ (bs : List Ent), (∀ u ∈ bs, GT u.1) → 2 * bs.length ≤ (if bs = [] then [] else 44 :: argT bs).length
  | [], _ => Nat.zero_le _
  | u :: bs, h => by
    rw [if_neg (fun z => by cases z), argT_cons, List.length_cons, List.length_cons, List.length_append]
    have := argT_len bs (fun y hy => h y (List.mem_cons_of_mem _ hy))
    have h1 := List.length_pos_iff.mpr (h u List.mem_cons_self).2.2.1
    omega
theorem fitsL_at {dec : Nat → Option Dec} : ∀ {as : List Ent} {A : Ent} {bs : List Ent} {ps : List Nat}, fitsL dec (as ++ A :: bs) ps → fitB dec A.2 (ps.getD as.length 0) = true
  | [], A, bs, [], h => absurd h id
  | [], A, bs, w :: ps, h => h.1
  | a :: as, A, bs, [], h => absurd h id
  | a :: as, A, bs, w :: ps, h => fitsL_at (as := as) h.2
theorem fitsL_snoc {dec : Nat → Option Dec} : ∀ {as : List Ent} {A : Ent} {ps : List Nat}, as.length < ps.length → fitsL dec as (ps.take as.length) → fitB dec A.2 (ps.getD as.length 0) = true → fitsL dec (as ++ [A]) (ps.take (as.length + 1))
  | [], A, [], h, _, _ => absurd h (Nat.not_lt_zero _)
  | [], A, w :: ps, h, _, hf => ⟨hf, trivial⟩
  | a :: as, A, [], h, _, _ => absurd h (Nat.not_lt_zero _)
  | a :: as, A, w :: ps, h, h2, hf => ⟨h2.1, fitsL_snoc (Nat.lt_of_succ_lt_succ h) h2.2 hf⟩
theorem sumC_app (as bs : List Ent) : sumC (as ++ bs) = sumC as + sumC bs := by
  unfold sumC
  rw [List.map_append, List.sum_append]
theorem sumC_cons (u : Ent) (bs : List Ent) : sumC (u :: bs) = cst u.1 + sumC bs := by
  unfold sumC
  rw [List.map_cons, List.sum_cons]
theorem ins_take25 {L : List Ent} {w : List Nat} {ty : Nat} : ins L (w.take 25, ty) = ins L (w, ty) := by
  by_cases h : w.length ≤ 24
  · rw [List.take_of_length_le (by omega)]
  · have e1 : ¬ (w.take 25).length ≤ 24 := by rw [List.length_take]; omega
    unfold ins
    rw [if_neg e1, if_neg h]
theorem low7_take {w : List Nat} (h : low7 w) (n : Nat) : low7 (w.take n) := fun x hx => h x (List.mem_of_mem_take hx)
theorem low7_app {u v : List Nat} (h : low7 u) (h' : low7 v) : low7 (u ++ v) := fun x hx => by
  rcases List.mem_append.mp hx with a | a
  · exact h x a
  · exact h' x a
theorem low7_one {x : Nat} (h : x < 127) : low7 [x] := fun y hy => by rw [List.mem_singleton.mp hy]; exact h
theorem low7_cons {x : Nat} {u : List Nat} (h : x < 127) (h' : low7 u) : low7 (x :: u) := fun y hy => by
  rcases List.mem_cons.mp hy with a | a
  · rw [a]; exact h
  · exact h' y a
theorem preT_low {M : Mem} {x j : Nat} {r : Option Ent} (hM : memOk M) (hx : x < 10) (hr : ∀ e, r = some e → low7 e.1) : low7 (preT M (x, j) r) := by
  unfold preT
  split
  · exact low7_app (by intro y; revert y; decide) (low7_one (show 65 + x < 127 by omega))
  · refine low7_app ?_ (low7_cons (by decide) (fun y hy => by have := hM.2.1.1 y hy; omega))
    cases r with
    | none => exact low7_one (show 65 + x < 127 by omega)
    | some e => exact hr e rfl
theorem argT_low (as : List Ent) (h : ∀ u ∈ as, ∀ x ∈ u.1, 0 < x ∧ x < 127) : low7 (argT as) := fun x hx => (argT_let as h x hx).2
theorem sepT_low (as : List Ent) (h : ∀ u ∈ as, ∀ x ∈ u.1, 0 < x ∧ x < 127) : low7 (sepT as) := by
  unfold sepT
  split
  · intro x hx; cases hx
  · exact low7_app (argT_low as h) (low7_one (by decide))
/-- one of the tuples that begin so -/
def NA (q : Nat × Nat) (r : Option Ent) (as : List Ent) (s : Tup) : Prop := s.1 = q ∧ s.2.1 = r ∧ ∃ bs, s.2.2 = as ++ bs
section NT
variable {dec : Nat → Option Dec} {pl : Int32} {K : Nat → List Ent} {c : Nat} {rk : Nat → Nat}
theorem L8_low {P : Tup → Prop} {L : List Ent} (hO : catOk dec) (hr : ranked dec rk) (hK : Kok K c) (hP : ∀ s, P s → Val dec pl K c s) (h : L8 (ImT dec P) L) : ∀ e ∈ L, low7 e.1 := by
  intro e he x hx
  obtain ⟨⟨s, hs, ee⟩, -⟩ := h.2.2.1 e he
  rw [ee] at hx
  exact ((hP s hs).let hO hr hK x hx).2
/-- the text of such a tuple -/
theorem NA_text {q : Nat × Nat} {r : Option Ent} {as : List Ent} {s : Tup} (hn : NA q r as s) (hf : (memQ dec q).1 ≠ 0) : ∃ R, R ≠ [] ∧ txT dec s = (preT (memQ dec q) q r ++ 40 :: argT as) ++ R := by
  obtain ⟨h1, h2, bs, h3⟩ := hn
  obtain ⟨R, hR⟩ := argT_pre as bs
  refine ⟨R ++ [41], by simp, ?_⟩
  unfold txT tailT
  rw [h1, h2, if_neg hf, h3, hR]
  simp only [List.append_assoc, List.cons_append]
theorem NA_text1 {q : Nat × Nat} {r : Option Ent} {as : List Ent} {A : Ent} {bs : List Ent} {s : Tup} (h1 : s.1 = q) (h2 : s.2.1 = r) (h3 : s.2.2 = as ++ A :: bs) (hf : (memQ dec q).1 ≠ 0) : txT dec s = (preT (memQ dec q) q r ++ 40 :: sepT as) ++ (A.1 ++ ((if bs = [] then [] else 44 :: argT bs) ++ [41])) := by
  unfold txT tailT
  rw [h1, h2, if_neg hf, h3, argT_app, argT_cons]
  simp only [List.append_assoc, List.cons_append]
end NT
/-- what the search leaves as it is -/
def FR (b c : Nat) (σ σ' : am_H) : Prop := ∀ x, x ≠ b + 14 → x ≠ b + 15 → (x < b + 16 + 18 * c ∨ b + 16 + 18 * c + 18 ≤ x) → σ' x = σ x
theorem FR.refl (b c : Nat) (σ : am_H) : FR b c σ σ := fun _ _ _ _ => rfl
theorem FR.trans {b c : Nat} {σ σ1 σ2 : am_H} (h : FR b c σ σ1) (h' : FR b c σ1 σ2) : FR b c σ σ2 := fun x h1 h2 h3 => (h' x h1 h2 h3).trans (h x h1 h2 h3)
theorem FR.draft {b c : Nat} {σ σ' : am_H} (h : ∀ x, x ≠ b + 14 → x ≠ b + 14 + 1 → σ' x = σ x) : FR b c σ σ' := fun x h1 h2 _ => h x h1 h2
theorem FR.shelf {b c : Nat} {σ σ' : am_H} (h : ∀ x, x < b + 16 + 18 * c ∨ b + 16 + 18 * c + 18 ≤ x → σ' x = σ x) : FR b c σ σ' := fun x _ _ h3 => h x h3
def cen (ad : Nat → Nat) (σ : am_H) (b hi : Nat) (dec : Nat → Option Dec) (pl : Int32) (da : Nat → Nat) (ea : Nat → Nat → Nat) (K : Nat → List Ent) (c : Nat) (z : Int32) : Prop :=
  X_cat ad σ b hi dec pl da ea ∧ σ (b + 11) = some (.inr (.inl (3, [.ref (b + 3), .ref (b + 6), .ref (b + 12), .ref (b + 13), .ref (b + 14), .ref (b + 16 + 18 * c), .int z]))) ∧
  (∃ g : Nat → Option Nat, σ (b + 12) = some (.inl (.object "ChainDesk$Shelf", 4, .inr (.inr (.inr (.inr g))))) ∧ ∀ i, i < 4 → g i = some (b + 16 + 18 * i)) ∧ ∀ k, k < c → ∃ P, shf σ (b + 16 + 18 * k) (K k) k P
theorem cen.kept {ad : Nat → Nat} {σ σ' : am_H} {b hi : Nat} {dec : Nat → Option Dec} {pl : Int32} {da : Nat → Nat} {ea : Nat → Nat → Nat} {K : Nat → List Ent} {c : Nat} {z : Int32} (h : cen ad σ b hi dec pl da ea K c z) (hc : c < 4) (hf : FR b c σ σ') : cen ad σ' b hi dec pl da ea K c z := by
  obtain ⟨h1, h2, ⟨g, h3, h4⟩, h5⟩ := h
  refine ⟨h1.kept (hf _ (by omega) (by omega) (by omega)) (hf _ (by omega) (by omega) (by omega)) (hf _ (by omega) (by omega) (by omega)) (fun q q1 q2 => hf q (by omega) (by omega) (by omega)) (Nat.le_refl _), (hf _ (by omega) (by omega) (by omega)).trans h2, ⟨g, (hf _ (by omega) (by omega) (by omega)).trans h3, h4⟩, fun k hk => ?_⟩
  obtain ⟨P, hP⟩ := h5 k hk
  exact ⟨P, hP.kept (fun x x1 x2 => hf x (by omega) (by omega) (by omega))⟩
def tgt (σ : am_H) (b c : Nat) (L : List Ent) : Prop := ∃ P, shf σ (b + 16 + 18 * c) L c P
theorem tgt.draft {σ σ' : am_H} {b c : Nat} {L : List Ent} (h : tgt σ b c L) (hf : ∀ x, x ≠ b + 14 → x ≠ b + 14 + 1 → σ' x = σ x) : tgt σ' b c L := by
  obtain ⟨P, hP⟩ := h
  exact ⟨P, hP.kept (fun x x1 x2 => hf x (by omega) (by omega))⟩
section CUT
variable {cs : Nat → Value} {d top sl : Nat} {σ : am_H}
/-- the draft is cut back -/
theorem phr.cut {p ty co : Nat} {w r : List Nat} (h : phr σ p (w ++ r) ty co) : phr (am_up σ p (.inr (.inl (8, [.ref (p + 1), .int (ii w.length), .int (ii ty), .int (ii co)])))) p w ty co := by
  obtain ⟨f, h1, h2, h3, h4⟩ := h
  rw [List.length_append] at h3 h4
  refine ⟨f, am_up_self _ _ _, by rw [am_up_ne _ _ (by omega)]; exact h2, by omega, fun j hj => ?_⟩
  have := h4 j (by omega)
  rw [List.getD_eq_getElem?_getD, List.getElem?_append_left hj, ← List.getD_eq_getElem?_getD] at this
  exact this
theorem phr.ty {p ty co ty' : Nat} {w : List Nat} (h : phr σ p w ty co) : phr (am_up σ p (.inr (.inl (8, [.ref (p + 1), .int (ii w.length), .int (ii ty'), .int (ii co)])))) p w ty' co := by
  obtain ⟨f, h1, h2, h3, h4⟩ := h
  exact ⟨f, am_up_self _ _ _, by rw [am_up_ne _ _ (by omega)]; exact h2, h3, h4⟩
theorem phr.at {p ty co : Nat} {w : List Nat} (h : phr σ p w ty co) : σ p = some (.inr (.inl (8, [.ref (p + 1), .int (ii w.length), .int (ii ty), .int (ii co)]))) := by
  obtain ⟨f, h1, -⟩ := h
  exact h1
end CUT
