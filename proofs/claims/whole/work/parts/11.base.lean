theorem am_fv_ok {ty : FieldType} {v : Value} (h : am_fv ty v = true) : narrow ty v = v ∧ fits ty v = true := by
  unfold am_fv at h
  split at h
  · exact ⟨rfl, rfl⟩
  · next x =>
    rw [Bool.or_eq_true, beq_iff_eq, beq_iff_eq] at h
    rcases h with h | h <;> subst h <;> decide
  · exact ⟨rfl, rfl⟩
  · exact ⟨rfl, rfl⟩
  · exact ⟨rfl, rfl⟩
  · exact ⟨rfl, rfl⟩
  · cases h
theorem am_fr_ok {ty : FieldType} {x : Int32} (h : am_fr ty (.int x) = true) : narrow ty (.int x) = .int x := by
  unfold am_fr at h
  split at h
  · next y e =>
    cases e
    have h1 := of_decide_eq_true h
    show Value.int _ = _
    rw [vp_nar_char] at h1
    exact congrArg Value.int h1
  · next y e =>
    cases e
    have h1 := of_decide_eq_true h
    show Value.int _ = _
    rw [vp_nar_byte] at h1
    exact congrArg Value.int h1
  · exact (am_fv_ok h).1
def am_as (lv : am_V) : List (Nat × Value) := (List.range lv.length).filterMap (fun i => (am_get lv i).map (fun v => (i, v)))
theorem am_get_lt {lv : am_V} {j : Nat} {w : Value} (h : am_get lv j = some w) : j < lv.length := by
  unfold am_get at h
  split at h
  · next v e => exact (List.getElem?_eq_some_iff.mp e).1
  · cases h
theorem am_as_mem {lv : am_V} {j : Nat} {w : Value} : (j, w) ∈ am_as lv ↔ am_get lv j = some w := by
  unfold am_as
  rw [List.mem_filterMap]
  constructor
  · rintro ⟨a, -, h⟩
    cases h1 : am_get lv a with
    | none => rw [h1] at h; cases h
    | some v => rw [h1] at h; cases h; exact h1
  · intro h
    exact ⟨j, List.mem_range.mpr (am_get_lt h), by rw [h]; rfl⟩
theorem am_get_set {lv : am_V} {i j : Nat} {v : Value} (hi : i < lv.length) : am_get (lv.set i (some v)) j = if i = j then some v else am_get lv j := by
  unfold am_get
  rw [List.getElem?_set]
  by_cases h : i = j
  · rw [if_pos h, if_pos h, if_pos hi]
  · rw [if_neg h, if_neg h]
/-- the frame's variables are the list's, all of one word -/
def am_ls (ls : Array Slot) (nL : Nat) (lv : am_V) : Prop := lv_has ls nL (am_as lv) ∧ lv.length = nL ∧ ∀ i v, am_get lv i = some v → v.category = 1
theorem am_ls.at {ls : Array Slot} {nL : Nat} {lv : am_V} (h : am_ls ls nL lv) {i : Nat} {v : Value} (hg : am_get lv i = some v) : ls[i]? = some (.val v) := h.1.2.2 (i, v) (am_as_mem.mpr hg)
theorem am_ls.st {ls ls' : Array Slot} {nL : Nat} {lv : am_V} (h : am_ls ls nL lv) {i : Nat} {v : Value} (hi : i < lv.length) (hv : v.category = 1)
    (h' : lv_has ls' nL ((i, v) :: (am_as lv).filter (fun q => !(q.1 == i) && !(q.1 + 1 == i && q.2.category == 2)))) : am_ls ls' nL (lv.set i (some v)) := by
  refine ⟨⟨h'.1, h'.2.1, ?_⟩, by rw [List.length_set]; exact h.2.1, ?_⟩
  · rintro ⟨j, w⟩ hq
    have hq := am_as_mem.mp hq
    rw [am_get_set hi] at hq
    by_cases hj : i = j
    · rw [if_pos hj] at hq
      cases hq
      subst hj
      exact h'.2.2 (i, v) List.mem_cons_self
    · rw [if_neg hj] at hq
      refine h'.2.2 (j, w) (List.mem_cons_of_mem _ (List.mem_filter.mpr ⟨am_as_mem.mpr hq, ?_⟩))
      have hc := h.2.2 j w hq
      simp [hc, Ne.symm hj]
  · intro j w hq
    rw [am_get_set hi] at hq
    by_cases hj : i = j
    · rw [if_pos hj] at hq
      cases hq
      exact hv
    · rw [if_neg hj] at hq
      exact h.2.2 j w hq
theorem am_rf_cat (r : Option Nat) : (va_rf r).category = 1 := by cases r <;> rfl
def am_fitA (ty : FieldType) (ar : vp_A) : Prop := match ar.2 with
  | .inl f => ∀ j, fits ty (.int (f j)) = true
  | _ => True
/-- a text that is a constant; its bytes lie at av -/
def am_str (b0 av a : Nat) (U : State) (H : Heap) : Prop := va_O "java/lang/String" a (fun q => b0 ≤ q) U H ∧ va_OF "java/lang/String" "coder" "B" (.int 0) a (fun q => b0 ≤ q) U H ∧ va_OF "java/lang/String" "value" "[B" (.ref av) a (fun q => b0 ≤ q) U H
theorem am_str.kept {b0 av a : Nat} {U : State} {H H1 : Heap} (h : am_str b0 av a U H) (hq : ∀ q : Nat, q < H.size → ¬ b0 ≤ q → H1[q]? = H[q]?) : am_str b0 av a U H1 := by
  obtain ⟨h1, h2, h3⟩ := h
  exact ⟨h1.kept hq, h2.kept hq, h3.kept hq⟩
theorem am_str.moved {b0 av a : Nat} {u U : State} {H : Heap} (hvm : u.vm.Alike U.vm) (h : am_str b0 av a u H) : am_str b0 av a U H := by
  obtain ⟨h1, h2, h3⟩ := h
  exact ⟨h1.moved hvm, h2.moved hvm, h3.moved hvm⟩
/-- what a cell of ours is on the machine's heap -/
def am_at (D : va_G) (cl : List vw_C) (b0 : Nat) (tys : List (ClassId × FieldType)) (U : State) (a : Nat) (e : am_C) (H : Heap) : Prop := match e with
  | .inl (ty, ar) => b0 ≤ a ∧ am_fitA ty ar ∧ ∃ cA, (cA, ty) ∈ tys ∧ H[a]? = some (vp_cell cA ar)
  | .inr (.inl (c, fs)) => b0 ≤ a ∧ ∃ r : vw_C, cl[c]? = some r ∧ fs.length = r.2.2 ∧ t_OB a (D.1 c) r.2.2 (D.2 c) H (vp_V fs)
  | .inr (.inr (0, n, f)) => a < b0 ∧ va_X a n f U H
  | .inr (.inr (1, av, _)) => a < b0 ∧ am_str b0 av a U H
  | .inr (.inr (_ + 2, n, f)) => a < b0 ∧ va_T .byte a n (fun j => .int (f j)) (fun q => b0 ≤ q) U H
theorem am_at.kept {D : va_G} {cl : List vw_C} {b0 : Nat} {tys : List (ClassId × FieldType)} {U : State} {a : Nat} {e : am_C} {H H1 : Heap} (h : am_at D cl b0 tys U a e H) (hq : H1[a]? = H[a]?) (hl : ∀ q : Nat, q < H.size → ¬ b0 ≤ q → H1[q]? = H[q]?) : am_at D cl b0 tys U a e H1 := by
  match e, h with
  | .inl (ty, ar), ⟨h1, h2, cA, h3, h4⟩ => exact ⟨h1, h2, cA, h3, by rw [hq]; exact h4⟩
  | .inr (.inl (c, fs)), ⟨h1, r, h2, h3, h4⟩ => exact ⟨h1, r, h2, h3, h4.kept hq⟩
  | .inr (.inr (0, n, f)), ⟨h1, h2⟩ => exact ⟨h1, h2.kept hq⟩
  | .inr (.inr (1, av, _)), ⟨h1, h2⟩ => exact ⟨h1, h2.kept hl⟩
  | .inr (.inr (_ + 2, n, f)), ⟨h1, h2⟩ => exact ⟨h1, h2.kept hl⟩
theorem am_at.moved {D : va_G} {cl : List vw_C} {b0 : Nat} {tys : List (ClassId × FieldType)} {u U : State} {a : Nat} {e : am_C} {H : Heap} (hvm : u.vm.Alike U.vm) (h : am_at D cl b0 tys u a e H) : am_at D cl b0 tys U a e H := by
  match e, h with
  | .inl (ty, ar), h => exact h
  | .inr (.inl (c, fs)), h => exact h
  | .inr (.inr (0, n, f)), ⟨h1, h2⟩ => exact ⟨h1, h2.moved hvm⟩
  | .inr (.inr (1, av, _)), ⟨h1, h2⟩ => exact ⟨h1, h2.moved hvm⟩
  | .inr (.inr (_ + 2, n, f)), ⟨h1, h2⟩ => exact ⟨h1, h2.moved hvm⟩
theorem am_at.more {D : va_G} {cl : List vw_C} {b0 : Nat} {tys tys' : List (ClassId × FieldType)} {U : State} {a : Nat} {e : am_C} {H : Heap} (h : am_at D cl b0 tys U a e H) (hq : ∀ x ∈ tys, x ∈ tys') : am_at D cl b0 tys' U a e H := by
  match e, h with
  | .inl (ty, ar), ⟨h1, h2, cA, h3, h4⟩ => exact ⟨h1, h2, cA, hq _ h3, h4⟩
  | .inr (.inl (c, fs)), h => exact h
  | .inr (.inr (0, n, f)), h => exact h
  | .inr (.inr (1, av, _)), h => exact h
  | .inr (.inr (_ + 2, n, f)), h => exact h
/-- the moving cells: the heap's size is 'top', every cell of σ is there -/
def am_dy (D : va_G) (cl : List vw_C) (b0 : Nat) (U : State) (σ : am_H) (top : Nat) (H : Heap) : Prop := H.size = top ∧ b0 ≤ top ∧ ∃ tys : List (ClassId × FieldType), va_K D cl tys U ∧ ∀ a e, σ a = some e → a < top ∧ am_at D cl b0 tys U a e H
theorem am_dy.moved {D : va_G} {cl : List vw_C} {b0 : Nat} {u U : State} {σ : am_H} {top : Nat} {H : Heap} (hvm : u.vm.Alike U.vm) (h : am_dy D cl b0 u σ top H) : am_dy D cl b0 U σ top H := by
  obtain ⟨h1, h0, tys, h2, h3⟩ := h
  exact ⟨h1, h0, tys, va_K.moved hvm h2, fun a e q => ⟨(h3 a e q).1, (h3 a e q).2.moved hvm⟩⟩
theorem am_dy_upd {D : va_G} {cl : List vw_C} {b0 : Nat} {U : State} {σ : am_H} {top : Nat} {H H1 : Heap} {tys : List (ClassId × FieldType)} (hsz : H.size = top) (hbt : b0 ≤ top) (hK : va_K D cl tys U) (hc : ∀ a e, σ a = some e → a < top ∧ am_at D cl b0 tys U a e H)
    {a : Nat} {e : am_C} (z : H1.size = H.size) (oq : ∀ q : Nat, q ≠ a → H1[q]? = H[q]?) (ha : a < top) (hba : b0 ≤ a) (he : am_at D cl b0 tys U a e H1) : am_dy D cl b0 U (am_up σ a e) top H1 := by
  refine ⟨z.trans hsz, hbt, tys, hK, fun q x hq => ?_⟩
  unfold am_up at hq
  by_cases h : q = a
  · rw [if_pos h] at hq
    cases hq
    subst h
    exact ⟨ha, he⟩
  · rw [if_neg h] at hq
    exact ⟨(hc q x hq).1, (hc q x hq).2.kept (oq q h) (fun y _ hy => oq y (fun z => hy (by rw [z]; exact hba)))⟩
theorem am_dy_push {D : va_G} {cl : List vw_C} {b0 : Nat} {U : State} {σ : am_H} {top : Nat} {H H1 : Heap} {tys tys' : List (ClassId × FieldType)} (hsz : H.size = top) (hbt : b0 ≤ top) (hK : va_K D cl tys' U) (hty : ∀ x ∈ tys, x ∈ tys') (hc : ∀ a e, σ a = some e → a < top ∧ am_at D cl b0 tys U a e H)
    {e : am_C} (z : H1.size = top + 1) (oq : ∀ q : Nat, q < top → H1[q]? = H[q]?) (he : am_at D cl b0 tys' U top e H1) : am_dy D cl b0 U (am_up σ top e) (top + 1) H1 := by
  refine ⟨z, Nat.le_succ_of_le hbt, tys', hK, fun q x hq => ?_⟩
  unfold am_up at hq
  by_cases h : q = top
  · rw [if_pos h] at hq
    cases hq
    subst h
    exact ⟨Nat.lt_succ_self _, he⟩
  · rw [if_neg h] at hq
    have := (hc q x hq).1
    exact ⟨Nat.lt_succ_of_lt this, ((hc q x hq).2.kept (oq q this) (fun y h1 _ => oq y (by rw [← hsz]; exact h1))).more hty⟩
theorem am_P1 {D : va_G} {cl : List vw_C} {q : Nat × va_E} {H : Heap} (h : va_at D cl q H) : va_P D cl [q] H := by
  intro k x hx
  have hz : k < 1 := (List.getElem?_eq_some_iff.mp hx).1
  rw [show k = 0 by omega] at hx
  cases hx
  exact h
theorem am_S_put {b0 : Nat} {H0 H H1 : Heap} {locs : List Loc} {a k : Nat} (h : va_S (fun q => b0 ≤ q) H0 H locs) (z : H1.size = H.size) (oq : ∀ q : Nat, q ≠ a → H1[q]? = H[q]?) (ha : b0 ≤ a) : va_S (fun q => b0 ≤ q) H0 H1 (locs ++ [⟨a, k⟩]) := h.put z oq ha
theorem am_S_push {b0 : Nat} {H0 H H1 : Heap} {locs : List Loc} (h : va_S (fun q => b0 ≤ q) H0 H locs) (z : H1.size = H.size + 1) (oq : ∀ q : Nat, q < H.size → H1[q]? = H[q]?) : va_S (fun q => b0 ≤ q) H0 H1 locs :=
  ⟨Nat.le_trans h.1 (by omega), fun q h1 h2 => (oq q (Nat.lt_of_lt_of_le h1 h.1)).trans (h.2.1 q h1 h2), h.2.2⟩
