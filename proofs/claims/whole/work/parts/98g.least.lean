/-! the least texts of a set -/
def ltT : List Nat → List Nat → Bool
  | _, [] => false
  | [], _ :: _ => true
  | a :: u, b :: v => if a = b then ltT u v else decide (a < b)
theorem ltT_irr : ∀ u, ltT u u = false
  | [] => rfl
  | a :: u => by rw [ltT, if_pos rfl]; exact ltT_irr u
theorem ltT_trans : ∀ {u v w : List Nat}, ltT u v = true → ltT v w = true → ltT u w = true
  | u, v, [], h1, h2 => by cases v <;> cases h2
  | [], v, c :: w, h1, h2 => rfl
  | a :: u, [], c :: w, h1, h2 => by cases h1
  | a :: u, b :: v, c :: w, h1, h2 => by
    rw [ltT] at h1 h2 ⊢
    by_cases e1 : a = b
    · rw [if_pos e1] at h1
      by_cases e2 : b = c
      · rw [if_pos e2] at h2
        rw [if_pos (e1.trans e2)]
        exact ltT_trans h1 h2
      · rw [if_neg e2] at h2
        rw [if_neg (by omega), e1]
        exact h2
    · rw [if_neg e1, decide_eq_true_eq] at h1
      by_cases e2 : b = c
      · rw [if_neg (by omega), decide_eq_true_eq]
        omega
      · rw [if_neg e2, decide_eq_true_eq] at h2
        rw [if_neg (by omega), decide_eq_true_eq]
        omega
theorem ltT_tri : ∀ (u v : List Nat), ltT u v = true ∨ u = v ∨ ltT v u = true
  | [], [] => Or.inr (Or.inl rfl)
  | [], _ :: _ => Or.inl rfl
  | _ :: _, [] => Or.inr (Or.inr rfl)
  | a :: u, b :: v => by
    rw [ltT, ltT]
    by_cases e : a = b
    · rw [if_pos e, if_pos e.symm, e]
      rcases ltT_tri u v with h | h | h
      · exact Or.inl h
      · exact Or.inr (Or.inl (by rw [h]))
      · exact Or.inr (Or.inr h)
    · rw [if_neg e, if_neg (fun z => e z.symm), decide_eq_true_eq, decide_eq_true_eq]
      omega
theorem ltT_asym {u v : List Nat} (h : ltT u v = true) : ltT v u = false := by
  cases h2 : ltT v u with
  | false => rfl
  | true =>
    have := ltT_trans h h2
    rw [ltT_irr] at this
    cases this
/-- what begins with a text is not before it -/
theorem ltT_ext : ∀ {u v w : List Nat}, ltT v u = true → ltT v (u ++ w) = true
  | [], v, w, h => by cases v <;> cases h
  | a :: u, [], w, h => rfl
  | a :: u, b :: v, w, h => by
    rw [ltT] at h
    rw [List.cons_append, ltT]
    by_cases e : b = a
    · rw [if_pos e] at h ⊢
      exact ltT_ext h
    · rw [if_neg e] at h ⊢
      exact h
theorem ltT_eqext (v w : List Nat) (h : w ≠ []) : ltT v (v ++ w) = true := by
  induction v with
  | nil =>
    cases w with
    | nil => exact absurd rfl h
    | cons a w => rfl
  | cons a v ih =>
    rw [List.cons_append, ltT, if_pos rfl]
    exact ih
abbrev Ent : Type := List Nat × Nat
/-- how many at the end come behind it -/
def posR (L : List Ent) (u : List Nat) : Nat := L.length - (L.reverse.takeWhile (fun y => ltT u y.1)).length
def ins (L : List Ent) (e : Ent) : List Ent := if e.1.length ≤ 24 then (L.take (posR L e.1) ++ e :: L.drop (posR L e.1)).take 8 else L
def srt (L : List Ent) : Prop := L.Pairwise (fun x y => ltT x.1 y.1 = true)
def L8 (S : Ent → Prop) (L : List Ent) : Prop := srt L ∧ L.length ≤ 8 ∧ (∀ x ∈ L, S x ∧ x.1.length ≤ 24) ∧ ∀ x, S x → x.1.length ≤ 24 → x ∈ L ∨ (L.length = 8 ∧ ∀ y ∈ L, ltT y.1 x.1 = true)
theorem srt_nodup {L : List Ent} (h : srt L) : L.Nodup := h.imp (fun {a b} hab e => by rw [e, ltT_irr] at hab; cases hab)
theorem nodup_sub {α : Type} [DecidableEq α] : ∀ (l l' : List α), l.Nodup → (∀ x ∈ l, x ∈ l') → l.length ≤ l'.length
  | [], l', _, _ => Nat.zero_le _
  | a :: l, l', hn, hs => by
    obtain ⟨h1, h2⟩ := List.nodup_cons.mp hn
    have ha := hs a List.mem_cons_self
    have := nodup_sub l (l'.erase a) h2 (fun x hx => (List.mem_erase_of_ne (fun e => h1 (by rw [← e]; exact hx))).mpr (hs x (List.mem_cons_of_mem _ hx)))
    rw [List.length_erase_of_mem ha] at this
    have hpos := List.length_pos_of_mem ha
    rw [List.length_cons]
    omega
theorem srt_ext : ∀ {L L' : List Ent}, srt L → srt L' → (∀ x, x ∈ L ↔ x ∈ L') → L = L'
  | [], [], _, _, _ => rfl
  | [], b :: L', _, _, h => by
    have := (h b).mpr List.mem_cons_self
    cases this
  | a :: L, [], _, _, h => by
    have := (h a).mp List.mem_cons_self
    cases this
  | a :: L, b :: L', h1, h2, h => by
    obtain ⟨a1, a2⟩ := List.pairwise_cons.mp h1
    obtain ⟨b1, b2⟩ := List.pairwise_cons.mp h2
    have e : a = b := by
      rcases List.mem_cons.mp ((h a).mp List.mem_cons_self) with e | e
      · exact e
      · rcases List.mem_cons.mp ((h b).mpr List.mem_cons_self) with e' | e'
        · exact e'.symm
        · have x1 := b1 a e
          have x2 := ltT_asym (a1 b e')
          rw [x1] at x2
          cases x2
    subst e
    have : L = L' := srt_ext a2 b2 (fun x => by
      constructor
      · intro hx
        rcases List.mem_cons.mp ((h x).mp (List.mem_cons_of_mem _ hx)) with e | e
        · have := a1 x hx
          rw [e, ltT_irr] at this
          cases this
        · exact e
      · intro hx
        rcases List.mem_cons.mp ((h x).mpr (List.mem_cons_of_mem _ hx)) with e | e
        · have := b1 x hx
          rw [e, ltT_irr] at this
          cases this
        · exact e)
    rw [this]
theorem L8_sub {S : Ent → Prop} {L L' : List Ent} (h : L8 S L) (h' : L8 S L') : ∀ x, x ∈ L → x ∈ L' := by
  intro x hx
  obtain ⟨s1, s2, s3, s4⟩ := h
  obtain ⟨t1, t2, t3, t4⟩ := h'
  rcases t4 x (s3 x hx).1 (s3 x hx).2 with h1 | ⟨h1, h2⟩
  · exact h1
  · have sub : ∀ y ∈ x :: L', y ∈ L := by
      intro y hy
      rcases List.mem_cons.mp hy with e | hy
      · rw [e]
        exact hx
      · rcases s4 y (t3 y hy).1 (t3 y hy).2 with h3 | ⟨h3, h4⟩
        · exact h3
        · have y1 := h4 x hx
          have y2 := ltT_asym (h2 y hy)
          rw [y1] at y2
          cases y2
    have hx' : x ∉ L' := fun hm => by
      have := h2 x hm
      rw [ltT_irr] at this
      cases this
    have := nodup_sub (x :: L') L (List.nodup_cons.mpr ⟨hx', srt_nodup t1⟩) sub
    rw [List.length_cons] at this
    omega
theorem L8_uni {S : Ent → Prop} {L L' : List Ent} (h : L8 S L) (h' : L8 S L') : L = L' := srt_ext h.1 h'.1 (fun x => ⟨L8_sub h h' x, L8_sub h' h x⟩)
theorem L8_iff {S S' : Ent → Prop} {L : List Ent} (h : L8 S L) (hS : ∀ x, S x ↔ S' x) : L8 S' L := ⟨h.1, h.2.1, fun x hx => ⟨(hS x).mp (h.2.2.1 x hx).1, (h.2.2.1 x hx).2⟩, fun x hx => h.2.2.2 x ((hS x).mpr hx)⟩
/-- what has no room changes nothing -/
theorem L8_prune {S N : Ent → Prop} {L : List Ent} (h : L8 S L) (hN : ∀ x, N x → 24 < x.1.length ∨ (L.length = 8 ∧ ∀ y ∈ L, ltT y.1 x.1 = true)) : L8 (fun x => S x ∨ N x) L := by
  obtain ⟨s1, s2, s3, s4⟩ := h
  refine ⟨s1, s2, fun x hx => ⟨Or.inl (s3 x hx).1, (s3 x hx).2⟩, fun x hx hl => ?_⟩
  rcases hx with hx | hx
  · exact s4 x hx hl
  · rcases hN x hx with h1 | h1
    · omega
    · exact Or.inr h1
/-- in a sorted list the place splits what is before from what is behind -/
theorem takeWhile_all {α : Type} {p : α → Bool} : ∀ (l : List α), ∀ x ∈ l.takeWhile p, p x = true
  | [], x, h => by cases h
  | a :: l, x, h => by
    rw [List.takeWhile_cons] at h
    split at h
    · next ha =>
      rcases List.mem_cons.mp h with e | h
      · rw [e]; exact ha
      · exact takeWhile_all l x h
    · cases h
theorem posR_spec {L : List Ent} {u : List Nat} (hs : srt L) (hu : ∀ x ∈ L, x.1 ≠ u) : posR L u ≤ L.length ∧ (∀ x ∈ L.take (posR L u), ltT x.1 u = true) ∧ ∀ x ∈ L.drop (posR L u), ltT u x.1 = true := by
  obtain ⟨B, hB⟩ : ∃ B, B = (L.reverse.takeWhile (fun y => ltT u y.1)) := ⟨_, rfl⟩
  have hsplit := List.takeWhile_append_dropWhile (p := fun y : Ent => ltT u y.1) (l := L.reverse)
  rw [← hB] at hsplit
  obtain ⟨A, hA⟩ : ∃ A, A = (L.reverse.dropWhile (fun y => ltT u y.1)) := ⟨_, rfl⟩
  rw [← hA] at hsplit
  have hL : L = A.reverse ++ B.reverse := by
    rw [← List.reverse_append, hsplit, List.reverse_reverse]
  have hlen : L.length = A.length + B.length := by
    rw [hL, List.length_append, List.length_reverse, List.length_reverse]
  have hp : posR L u = A.length := by
    unfold posR
    rw [← hB]
    omega
  have hBall : ∀ x ∈ B, ltT u x.1 = true := by
    intro x hx
    rw [hB] at hx
    exact takeWhile_all L.reverse x hx
  rw [hp]
  have ht : L.take A.length = A.reverse := by
    rw [hL, List.take_append_of_le_length (by rw [List.length_reverse]; exact Nat.le_refl _), List.take_of_length_le (by rw [List.length_reverse]; exact Nat.le_refl _)]
  have hd : L.drop A.length = B.reverse := by
    rw [hL, List.drop_append_of_le_length (by rw [List.length_reverse]; exact Nat.le_refl _), List.drop_of_length_le (by rw [List.length_reverse]; exact Nat.le_refl _), List.nil_append]
  refine ⟨by omega, fun x hx => ?_, fun x hx => ?_⟩
  · rw [ht, List.mem_reverse] at hx
    have hxL : x ∈ L := by rw [hL]; exact List.mem_append_left _ (List.mem_reverse.mpr hx)
    cases hAc : A with
    | nil =>
      rw [hAc] at hx
      cases hx
    | cons z A' =>
      have hz : ltT u z.1 = false := by
        have := List.head?_dropWhile_not (p := fun y : Ent => ltT u y.1) L.reverse
        rw [← hA, hAc] at this
        exact this
      have hzL : z ∈ L := by rw [hL, hAc]; exact List.mem_append_left _ (List.mem_reverse.mpr List.mem_cons_self)
      have hzu : ltT z.1 u = true := by
        rcases ltT_tri z.1 u with h | h | h
        · exact h
        · exact absurd h (hu z hzL)
        · rw [hz] at h
          cases h
      rw [hAc] at hx
      rcases List.mem_cons.mp hx with e | hx'
      · rw [e]
        exact hzu
      · have hpw : srt (A'.reverse ++ [z] ++ B.reverse) := by
          have := hs
          rw [hL, hAc, List.reverse_cons] at this
          exact this
        have h1 := (List.pairwise_append.mp hpw).1
        have h2 := (List.pairwise_append.mp h1).2.2 x (List.mem_reverse.mpr hx') z List.mem_cons_self
        exact ltT_trans h2 hzu
  · rw [hd, List.mem_reverse] at hx
    exact hBall x hx
theorem L8_ins {S : Ent → Prop} {L : List Ent} {e : Ent} (h : L8 S L) (hu : ∀ x, S x → x.1 ≠ e.1) : L8 (fun x => S x ∨ x = e) (ins L e) := by
  obtain ⟨s1, s2, s3, s4⟩ := h
  unfold ins
  by_cases hl : e.1.length ≤ 24
  · rw [if_pos hl]
    obtain ⟨p1, p2, p3⟩ := posR_spec s1 (fun x hx => hu x (s3 x hx).1)
    generalize posR L e.1 = p at p1 p2 p3
    obtain ⟨M, hM⟩ : ∃ M, M = L.take p ++ e :: L.drop p := ⟨_, rfl⟩
    have hmem : ∀ x, x ∈ M ↔ x ∈ L ∨ x = e := by
      intro x
      rw [hM, List.mem_append, List.mem_cons]
      constructor
      · rintro (h | h | h)
        · exact Or.inl (List.mem_of_mem_take h)
        · exact Or.inr h
        · exact Or.inl (List.mem_of_mem_drop h)
      · rintro (h | h)
        · rw [← List.take_append_drop p L, List.mem_append] at h
          rcases h with h | h
          · exact Or.inl h
          · exact Or.inr (Or.inr h)
        · exact Or.inr (Or.inl h)
    have hsM : srt M := by
      have hpw := s1
      rw [← List.take_append_drop p L] at hpw
      obtain ⟨q1, q2, q3⟩ := List.pairwise_append.mp hpw
      rw [hM]
      refine List.pairwise_append.mpr ⟨q1, List.pairwise_cons.mpr ⟨fun y hy => p3 y hy, q2⟩, fun x hx y hy => ?_⟩
      rcases List.mem_cons.mp hy with e' | hy
      · rw [e']
        exact p2 x hx
      · exact q3 x hx y hy
    have hlM : M.length = L.length + 1 := by
      rw [hM, List.length_append, List.length_cons, List.length_take, List.length_drop]
      omega
    rw [← hM]
    have hS' : ∀ x ∈ M, (S x ∨ x = e) ∧ x.1.length ≤ 24 := by
      intro x hx
      rcases (hmem x).mp hx with h | h
      · exact ⟨Or.inl (s3 x h).1, (s3 x h).2⟩
      · exact ⟨Or.inr h, by rw [h]; exact hl⟩
    have hcov : ∀ x, (S x ∨ x = e) → x.1.length ≤ 24 → x ∈ M ∨ (L.length = 8 ∧ ∀ y ∈ L, ltT y.1 x.1 = true) := by
      intro x hx hxl
      rcases hx with hx | hx
      · rcases s4 x hx hxl with h | h
        · exact Or.inl ((hmem x).mpr (Or.inl h))
        · exact Or.inr h
      · exact Or.inl ((hmem x).mpr (Or.inr hx))
    by_cases h8 : M.length ≤ 8
    · rw [List.take_of_length_le h8]
      refine ⟨hsM, h8, hS', fun x hx hxl => ?_⟩
      rcases hcov x hx hxl with h | ⟨h, -⟩
      · exact Or.inl h
      · omega
    · have hL8 : L.length = 8 := by omega
      obtain ⟨N, z, hN⟩ : ∃ N z, M = N ++ [z] := ⟨M.dropLast, M.getLast (by intro h; rw [h] at hlM; exact absurd hlM (by simp)), (List.dropLast_concat_getLast _).symm⟩
      have hN8 : N.length = 8 := by
        have := hlM
        rw [hN, List.length_append] at this
        have : N.length + 1 = L.length + 1 := this
        omega
      have hT : M.take 8 = N := by
        rw [hN, List.take_append_of_le_length (by omega), List.take_of_length_le (by omega)]
      rw [hT]
      rw [hN] at hsM
      obtain ⟨n1, n2, n3⟩ := List.pairwise_append.mp hsM
      have hz : ∀ y ∈ N, ltT y.1 z.1 = true := fun y hy => n3 y hy z List.mem_cons_self
      refine ⟨n1, by omega, fun x hx => hS' x (by rw [hN]; exact List.mem_append_left _ hx), fun x hx hxl => ?_⟩
      rcases hcov x hx hxl with h | ⟨-, h⟩
      · rw [hN, List.mem_append] at h
        rcases h with h | h
        · exact Or.inl h
        · rw [List.mem_singleton.mp h]
          exact Or.inr ⟨hN8, hz⟩
      · refine Or.inr ⟨hN8, fun y hy => ?_⟩
        have hyM : y ∈ M := by rw [hN]; exact List.mem_append_left _ hy
        rcases (hmem y).mp hyM with hyL | hye
        · exact h y hyL
        · have hzM : z ∈ M := by rw [hN]; exact List.mem_append_right _ List.mem_cons_self
          rcases (hmem z).mp hzM with hzL | hze
          · exact ltT_trans (hz y hy) (h z hzL)
          · have := hz y hy
            rw [hye, hze, ltT_irr] at this
            cases this
  · rw [if_neg hl]
    exact L8_prune ⟨s1, s2, s3, s4⟩ (fun x hx => Or.inl (by rw [hx]; omega))
theorem L8_nil {S : Ent → Prop} (h : ∀ x, ¬ S x) : L8 S [] := ⟨List.Pairwise.nil, by decide, (fun x hx => by cases hx), fun x hx => absurd hx (h x)⟩
