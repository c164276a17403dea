/-! texts are split in one way -/
def sc (stop : Nat → Bool) (o c : Nat) : Nat → List Nat → List Nat
  | _, [] => []
  | d, x :: l => if d = 0 ∧ stop x = true then [] else x :: sc stop o c (if x = o then d + 1 else if x = c then d - 1 else d) l
def pas (stop : Nat → Bool) (o c : Nat) (u : List Nat) : Prop := ∀ d r, sc stop o c d (u ++ r) = u ++ sc stop o c d r
def pas1 (stop : Nat → Bool) (o c : Nat) (u : List Nat) : Prop := ∀ d r, sc stop o c (d + 1) (u ++ r) = u ++ sc stop o c (d + 1) r
section SC
variable {stop : Nat → Bool} {o c : Nat}
theorem pas.app {u v : List Nat} (h : pas stop o c u) (h' : pas stop o c v) : pas stop o c (u ++ v) := fun d r => by rw [List.append_assoc, h, h', List.append_assoc]
theorem pas1.app {u v : List Nat} (h : pas1 stop o c u) (h' : pas1 stop o c v) : pas1 stop o c (u ++ v) := fun d r => by rw [List.append_assoc, h, h', List.append_assoc]
theorem pas.one {u : List Nat} (h : pas stop o c u) : pas1 stop o c u := fun d r => h (d + 1) r
theorem pas_nil : pas stop o c [] := fun _ _ => rfl
theorem pas1_nil : pas1 stop o c [] := fun _ _ => rfl
theorem pas_ch {x : Nat} (h1 : x ≠ o) (h2 : x ≠ c) (h3 : stop x = false) : pas stop o c [x] := fun d r => by
  show sc stop o c d (x :: r) = x :: sc stop o c d r
  rw [sc, if_neg (fun z => by rw [h3] at z; cases z.2), if_neg h1, if_neg h2]
theorem pas1_ch {x : Nat} (h1 : x ≠ o) (h2 : x ≠ c) : pas1 stop o c [x] := fun d r => by
  show sc stop o c (d + 1) (x :: r) = x :: sc stop o c (d + 1) r
  rw [sc, if_neg (fun z => by omega), if_neg h1, if_neg h2]
theorem pas_wrap {v : List Nat} (h : pas1 stop o c v) (hoc : o ≠ c) (ho : stop o = false) : pas stop o c (o :: v ++ [c]) := fun d r => by
  show sc stop o c d (o :: (v ++ [c] ++ r)) = o :: (v ++ [c] ++ sc stop o c d r)
  rw [sc, if_neg (fun z => by rw [ho] at z; cases z.2), if_pos rfl, List.append_assoc, h, List.append_assoc]
  show o :: (v ++ sc stop o c (d + 1) (c :: r)) = o :: (v ++ c :: sc stop o c d r)
  rw [sc, if_neg (fun z => by omega), if_neg (fun z => hoc z.symm), if_pos rfl]
  rfl
theorem pas_lows {l : List Nat} (hl : ∀ x ∈ l, x ≠ o ∧ x ≠ c ∧ stop x = false) : pas stop o c l := by
  induction l with
  | nil => exact pas_nil
  | cons x l ih =>
    have h := hl x List.mem_cons_self
    exact pas.app (u := [x]) (pas_ch h.1 h.2.1 h.2.2) (ih (fun y hy => hl y (List.mem_cons_of_mem _ hy)))
theorem pas1_lows {l : List Nat} (hl : ∀ x ∈ l, x ≠ o ∧ x ≠ c) : pas1 stop o c l := by
  induction l with
  | nil => exact pas1_nil
  | cons x l ih =>
    have h := hl x List.mem_cons_self
    exact pas1.app (u := [x]) (pas1_ch h.1 h.2) (ih (fun y hy => hl y (List.mem_cons_of_mem _ hy)))
end SC
def stL (x : Nat) : Bool := x == 44 || x == 41
def stR (x : Nat) : Bool := x == 46
/-- what every kept text is like -/
def GT (w : List Nat) : Prop := pas stL 40 41 w ∧ pas1 stR 41 40 w.reverse ∧ w ≠ [] ∧ ∀ x, w = [x] → 97 ≤ x ∧ x ≤ 122
def argT : List Ent → List Nat
  | [] => []
  | [u] => u.1
  | u :: v :: r => u.1 ++ 44 :: argT (v :: r)
theorem argT_pL : ∀ (as : List Ent), (∀ u ∈ as, GT u.1) → pas1 stL 40 41 (argT as)
  | [], _ => pas1_nil
  | [u], h => (h u List.mem_cons_self).1.one
  | u :: v :: r, h => (h u List.mem_cons_self).1.one.app ((pas1_ch (x := 44) (by decide) (by decide)).app (argT_pL (v :: r) (fun y hy => h y (List.mem_cons_of_mem _ hy))))
theorem argT_pR : ∀ (as : List Ent), (∀ u ∈ as, GT u.1) → pas1 stR 41 40 (argT as).reverse
  | [], _ => pas1_nil
  | [u], h => (h u List.mem_cons_self).2.1
  | u :: v :: r, h => by
    have h1 := argT_pR (v :: r) (fun y hy => h y (List.mem_cons_of_mem _ hy))
    rw [argT, List.reverse_append, List.reverse_cons]
    exact (h1.app (pas1_ch (x := 44) (by decide) (by decide))).app (h u List.mem_cons_self).2.1
theorem argT_inj : ∀ (as as' : List Ent), (∀ u ∈ as, GT u.1) → (∀ u ∈ as', GT u.1) → as.length = as'.length → argT as = argT as' → as.map (fun u => u.1) = as'.map (fun u => u.1)
  | [], [], _, _, _, _ => rfl
  | [], _ :: _, _, _, h, _ => by cases h
  | _ :: _, [], _, _, h, _ => by cases h
  | [u], [u'], _, _, _, e => by
    have e : u.1 = u'.1 := e
    rw [List.map_singleton, List.map_singleton, e]
  | [u], u' :: v' :: r', _, _, h, _ => by simp at h
  | u :: v :: r, [u'], _, _, h, _ => by simp at h
  | u :: v :: r, u' :: v' :: r', g, g', h, e => by
    rw [argT, argT] at e
    have e1 : u.1 = u'.1 := by
      have := congrArg (sc stL 40 41 0) e
      rw [(g u List.mem_cons_self).1, (g' u' List.mem_cons_self).1, sc, if_pos ⟨rfl, rfl⟩, sc, if_pos ⟨rfl, rfl⟩, List.append_nil, List.append_nil] at this
      exact this
    rw [e1] at e
    have e2 := List.append_cancel_left e
    have e3 : argT (v :: r) = argT (v' :: r') := (List.cons.inj e2).2
    have := argT_inj (v :: r) (v' :: r') (fun y hy => g y (List.mem_cons_of_mem _ hy)) (fun y hy => g' y (List.mem_cons_of_mem _ hy)) (by simpa using h) e3
    show u.1 :: (v :: r).map (fun u => u.1) = u'.1 :: (v' :: r').map (fun u => u.1)
    rw [e1, this]
/-- a member, what it is used on, its arguments -/
abbrev Tup : Type := (Nat × Nat) × Option Ent × List Ent
def tailT (M : Mem) (as : List Ent) : List Nat := if M.1 = 0 then [] else 40 :: argT as ++ [41]
def frontT (q : Nat × Nat) (r : Option Ent) : List Nat := match r with
  | none => [65 + q.1]
  | some e => e.1
def preT (M : Mem) (q : Nat × Nat) (r : Option Ent) : List Nat := if M.1 = 2 then wNewS ++ [65 + q.1] else frontT q r ++ 46 :: M.2.2.2.1
def txT (dec : Nat → Option Dec) (τ : Tup) : List Nat := preT (memQ dec τ.1) τ.1 τ.2.1 ++ tailT (memQ dec τ.1) τ.2.2
def WF (dec : Nat → Option Dec) (τ : Tup) : Prop := memOk (memQ dec τ.1) ∧ τ.1.1 < 10 ∧ (∀ e, τ.2.1 = some e → GT e.1 ∧ (memQ dec τ.1).1 ≠ 2) ∧ (∀ u ∈ τ.2.2, GT u.1) ∧ τ.2.2.length = (memQ dec τ.1).2.2.2.2.1.length
section TI
variable {dec : Nat → Option Dec} {τ τ' : Tup}
theorem low_ok {w : List Nat} (h : ∀ c ∈ w, 97 ≤ c ∧ c ≤ 122) : (∀ x ∈ w, x ≠ 40 ∧ x ≠ 41 ∧ stL x = false) ∧ ∀ x ∈ w.reverse, x ≠ 41 ∧ x ≠ 40 ∧ stR x = false := by
  refine ⟨fun x hx => ?_, fun x hx => ?_⟩
  · have := h x hx
    refine ⟨by omega, by omega, ?_⟩
    unfold stL
    rw [beq_eq_false_iff_ne.mpr (by omega), beq_eq_false_iff_ne.mpr (by omega)]
    rfl
  · have := h x (List.mem_reverse.mp hx)
    exact ⟨by omega, by omega, beq_eq_false_iff_ne.mpr (by omega)⟩
theorem tail_pR (h : WF dec τ) : pas stR 41 40 (tailT (memQ dec τ.1) τ.2.2).reverse := by
  unfold tailT
  split
  · exact pas_nil
  · have := pas_wrap (stop := stR) (o := 41) (c := 40) (argT_pR τ.2.2 h.2.2.2.1) (by decide) (by decide)
    rw [List.cons_append, List.reverse_cons, List.reverse_append]
    exact this
theorem tail_pL (h : WF dec τ) : pas stL 40 41 (tailT (memQ dec τ.1) τ.2.2) := by
  unfold tailT
  split
  · exact pas_nil
  · exact pas_wrap (stop := stL) (o := 40) (c := 41) (argT_pL τ.2.2 h.2.2.2.1) (by decide) (by decide)
/-- the scan from the right -/
theorem scR_maker (h : WF dec τ) (hm : (memQ dec τ.1).1 = 2) : sc stR 41 40 0 (txT dec τ).reverse = (txT dec τ).reverse := by
  have hp : pas stR 41 40 (txT dec τ).reverse := by
    unfold txT preT
    rw [if_pos hm, List.reverse_append]
    refine (tail_pR h).app (pas_lows (fun x hx => ?_))
    rw [List.mem_reverse, List.mem_append, List.mem_singleton] at hx
    have hx10 := h.2.1
    rcases hx with hx | hx
    · revert x
      decide
    · refine ⟨by omega, by omega, beq_eq_false_iff_ne.mpr (by omega)⟩
  have := hp 0 []
  rw [List.append_nil] at this
  rw [this]
  show _ ++ [] = _
  rw [List.append_nil]
theorem scR_other (h : WF dec τ) (hm : ¬ (memQ dec τ.1).1 = 2) : sc stR 41 40 0 (txT dec τ).reverse = ((memQ dec τ.1).2.2.2.1 ++ tailT (memQ dec τ.1) τ.2.2).reverse := by
  unfold txT preT
  rw [if_neg hm, List.append_assoc, List.reverse_append, List.cons_append, List.reverse_cons]
  have hp : pas stR 41 40 ((memQ dec τ.1).2.2.2.1 ++ tailT (memQ dec τ.1) τ.2.2).reverse := by
    rw [List.reverse_append]
    exact (tail_pR h).app (pas_lows (low_ok h.1.2.1.1).2)
  rw [List.append_assoc, hp]
  show _ ++ sc stR 41 40 0 (46 :: (frontT τ.1 τ.2.1).reverse) = _
  rw [sc, if_pos ⟨rfl, rfl⟩, List.append_nil]
theorem front_ne (h : WF dec τ) (hm : ¬ (memQ dec τ.1).1 = 2) : txT dec τ = frontT τ.1 τ.2.1 ++ 46 :: ((memQ dec τ.1).2.2.2.1 ++ tailT (memQ dec τ.1) τ.2.2) := by
  unfold txT preT
  rw [if_neg hm, List.append_assoc, List.cons_append]
theorem name_tail {w w' A A' : List Nat} (hw : ∀ c ∈ w, 97 ≤ c ∧ c ≤ 122) (hw' : ∀ c ∈ w', 97 ≤ c ∧ c ≤ 122) (hA : A = [] ∨ ∃ B, A = 40 :: B) (hA' : A' = [] ∨ ∃ B, A' = 40 :: B) (e : w ++ A = w' ++ A') : w = w' ∧ A = A' := by
  have tw : ∀ (w A : List Nat), (∀ c ∈ w, 97 ≤ c ∧ c ≤ 122) → (A = [] ∨ ∃ B, A = 40 :: B) → (w ++ A).takeWhile low = w := by
    intro w A h hA
    rw [List.takeWhile_append_of_pos (fun x hx => by
      have := h x hx
      unfold low
      rw [decide_eq_true this.1, decide_eq_true this.2]
      rfl)]
    rcases hA with e | ⟨B, e⟩
    · rw [e]
      exact List.append_nil _
    · rw [e, List.takeWhile_cons, if_neg (by decide), List.append_nil]
  have e1 : w = w' := by
    have := congrArg (List.takeWhile low) e
    rw [tw w A hw hA, tw w' A' hw' hA'] at this
    exact this
  refine ⟨e1, ?_⟩
  rw [e1] at e
  exact List.append_cancel_left e
theorem tail_form (M : Mem) (as : List Ent) : tailT M as = [] ∨ ∃ B, tailT M as = 40 :: B := by
  unfold tailT
  split
  · exact Or.inl rfl
  · exact Or.inr ⟨argT as ++ [41], rfl⟩
theorem tail_inj {M M' : Mem} {as as' : List Ent} (e : tailT M as = tailT M' as') : (M.1 = 0 ↔ M'.1 = 0) ∧ (¬ M.1 = 0 → argT as = argT as') := by
  unfold tailT at e
  by_cases h : M.1 = 0
  · rw [if_pos h] at e
    by_cases h' : M'.1 = 0
    · exact ⟨⟨fun _ => h', fun _ => h⟩, fun z => absurd h z⟩
    · rw [if_neg h'] at e
      cases e
  · rw [if_neg h] at e
    by_cases h' : M'.1 = 0
    · rw [if_pos h'] at e
      cases e
    · rw [if_neg h'] at e
      refine ⟨⟨fun z => absurd z h, fun z => absurd z h'⟩, fun _ => ?_⟩
      have e := (List.cons.inj e).2
      exact (List.append_inj' e rfl).1
/-- what a text says of its tuple -/
theorem tx_inj (h : WF dec τ) (h' : WF dec τ') (e : txT dec τ = txT dec τ') : (memQ dec τ.1).1 = (memQ dec τ'.1).1 ∧ (memQ dec τ.1).2.2.2.1 = (memQ dec τ'.1).2.2.2.1 ∧ τ.2.1.map (fun u => u.1) = τ'.2.1.map (fun u => u.1) ∧ (τ.2.1 = none → τ.1.1 = τ'.1.1) ∧ (τ.2.2.length = τ'.2.2.length → ¬ (memQ dec τ.1).1 = 0 → τ.2.2.map (fun u => u.1) = τ'.2.2.map (fun u => u.1)) := by
  have key : sc stR 41 40 0 (txT dec τ).reverse = sc stR 41 40 0 (txT dec τ').reverse := by rw [e]
  have lenO : ∀ (σ : Tup), WF dec σ → ¬ (memQ dec σ.1).1 = 2 → ((memQ dec σ.1).2.2.2.1 ++ tailT (memQ dec σ.1) σ.2.2).reverse.length < (txT dec σ).reverse.length := by
    intro σ hσ hm
    rw [front_ne hσ hm, List.length_reverse, List.length_reverse, List.length_append, List.length_append, List.length_cons, List.length_append]
    omega
  by_cases hm : (memQ dec τ.1).1 = 2
  · rw [scR_maker h hm] at key
    by_cases hm' : (memQ dec τ'.1).1 = 2
    · have r1 : τ.2.1 = none := by
        cases hr : τ.2.1 with
        | none => rfl
        | some u => exact absurd hm (h.2.2.1 u hr).2
      have r2 : τ'.2.1 = none := by
        cases hr : τ'.2.1 with
        | none => rfl
        | some u => exact absurd hm' (h'.2.2.1 u hr).2
      have n1 := (h.1.2.2.1 hm).1
      have n2 := (h'.1.2.2.1 hm').1
      unfold txT preT at e
      rw [if_pos hm, if_pos hm', List.append_assoc, List.append_assoc] at e
      have e2 := List.append_cancel_left e
      have e3 := List.cons.inj e2
      have e4 := (tail_inj e3.2).2 (by omega)
      refine ⟨by omega, by rw [n1, n2], by rw [r1, r2], fun _ => by have := e3.1; omega, fun hl _ => argT_inj _ _ h.2.2.2.1 h'.2.2.2.1 hl e4⟩
    · rw [scR_other h' hm', e] at key
      have := lenO τ' h' hm'
      rw [← key] at this
      omega
  · rw [scR_other h hm] at key
    by_cases hm' : (memQ dec τ'.1).1 = 2
    · rw [scR_maker h' hm', ← e] at key
      have := lenO τ h hm
      rw [key] at this
      omega
    · rw [scR_other h' hm'] at key
      have key := List.reverse_inj.mp key
      obtain ⟨k1, k2⟩ := name_tail h.1.2.1.1 h'.1.2.1.1 (tail_form _ _) (tail_form _ _) key
      obtain ⟨t1, t2⟩ := tail_inj k2
      rw [front_ne h hm, front_ne h' hm', key] at e
      have e5 := (List.append_inj' e rfl).1
      have hkind : (memQ dec τ.1).1 = (memQ dec τ'.1).1 := by
        have m1 := h.1.1
        have m2 := h'.1.1
        by_cases z : (memQ dec τ.1).1 = 0
        · rw [z, t1.mp z]
        · have : ¬ (memQ dec τ'.1).1 = 0 := fun y => z (t1.mpr y)
          omega
      refine ⟨hkind, k1, ?_, ?_, fun hl z => argT_inj _ _ h.2.2.2.1 h'.2.2.2.1 hl (t2 z)⟩
      · unfold frontT at e5
        cases hr : τ.2.1 with
        | none =>
          cases hr' : τ'.2.1 with
          | none => rfl
          | some u' =>
            rw [hr, hr'] at e5
            have := (h'.2.2.1 u' hr').1.2.2.2 _ e5.symm
            have := h.2.1
            omega
        | some u =>
          cases hr' : τ'.2.1 with
          | none =>
            rw [hr, hr'] at e5
            have := (h.2.2.1 u hr).1.2.2.2 _ e5
            have := h'.2.1
            omega
          | some u' =>
            rw [hr, hr'] at e5
            have e5 : u.1 = u'.1 := e5
            show some u.1 = some u'.1
            rw [e5]
      · intro hr
        unfold frontT at e5
        rw [hr] at e5
        cases hr' : τ'.2.1 with
        | none =>
          rw [hr'] at e5
          have := (List.cons.inj e5).1
          omega
        | some u' =>
          rw [hr'] at e5
          have := (h'.2.2.1 u' hr').1.2.2.2 _ e5.symm
          have := h.2.1
          omega
/-- a new text is like the kept ones -/
theorem tx_good (h : WF dec τ) : GT (txT dec τ) := by
  have hx := h.2.1
  have hlen : 2 ≤ (txT dec τ).length := by
    unfold txT preT
    split
    · rw [List.length_append, List.length_append]
      show 2 ≤ 4 + 1 + _
      omega
    · next hm =>
      have := h.1.2.2.2.1 hm
      rw [List.length_append, List.length_append, List.length_cons]
      omega
  refine ⟨?_, ?_, (fun z => by rw [z] at hlen; exact absurd hlen (by decide)), fun x z => by rw [z] at hlen; exact absurd (show 2 ≤ 1 from hlen) (by decide)⟩
  · unfold txT preT
    refine pas.app ?_ (tail_pL h)
    split
    · refine pas_lows (fun x hx' => ?_)
      rw [List.mem_append, List.mem_singleton] at hx'
      rcases hx' with hx' | hx'
      · revert x
        decide
      · refine ⟨by omega, by omega, ?_⟩
        unfold stL
        rw [beq_eq_false_iff_ne.mpr (by omega), beq_eq_false_iff_ne.mpr (by omega)]
        rfl
    · refine pas.app ?_ (pas.app (u := [46]) (pas_ch (by decide) (by decide) (by decide)) (pas_lows (low_ok h.1.2.1.1).1))
      unfold frontT
      cases hr : τ.2.1 with
      | none =>
        refine pas_ch (by omega) (by omega) ?_
        unfold stL
        rw [beq_eq_false_iff_ne.mpr (by omega), beq_eq_false_iff_ne.mpr (by omega)]
        rfl
      | some u => exact (h.2.2.1 u hr).1.1
  · unfold txT preT
    rw [List.reverse_append]
    refine pas1.app (tail_pR h).one ?_
    split
    · refine pas1_lows (fun x hx' => ?_)
      rw [List.mem_reverse, List.mem_append, List.mem_singleton] at hx'
      rcases hx' with hx' | hx'
      · revert x
        decide
      · exact ⟨by omega, by omega⟩
    · rw [List.reverse_append, List.reverse_cons]
      refine pas1.app (pas1.app (pas_lows (low_ok h.1.2.1.1).2).one (pas1_ch (by decide) (by decide))) ?_
      unfold frontT
      cases hr : τ.2.1 with
      | none => exact pas1_ch (by omega) (by omega)
      | some u => exact (h.2.2.1 u hr).1.2.1
end TI
theorem GT_name {w : List Nat} (h : ∀ c ∈ w, 97 ≤ c ∧ c ≤ 122) (h1 : 1 ≤ w.length) : GT w := ⟨pas_lows (low_ok h).1, (pas_lows (low_ok h).2).one, (fun z => by rw [z] at h1; exact absurd h1 (by decide)), fun x e => h x (by rw [e]; exact List.mem_cons_self)⟩
/-- the cost of a text: its dots and spaces -/
def cst (w : List Nat) : Nat := w.countP (fun x => x == 46 || x == 32)
theorem cst_low {w : List Nat} (h : ∀ c ∈ w, 97 ≤ c ∧ c ≤ 122) : cst w = 0 := by
  unfold cst
  rw [List.countP_eq_zero]
  intro x hx z
  have := h x hx
  rw [Bool.or_eq_true, beq_iff_eq, beq_iff_eq] at z
  omega
theorem cst_app (u v : List Nat) : cst (u ++ v) = cst u + cst v := List.countP_append
theorem cst_cons (x : Nat) (v : List Nat) : cst (x :: v) = (if x = 46 ∨ x = 32 then 1 else 0) + cst v := by
  unfold cst
  rw [List.countP_cons]
  by_cases h : x = 46 ∨ x = 32
  · rw [if_pos h, if_pos (by rw [Bool.or_eq_true, beq_iff_eq, beq_iff_eq]; exact h)]
    omega
  · rw [if_neg h, if_neg (by rw [Bool.or_eq_true, beq_iff_eq, beq_iff_eq]; exact h)]
    omega
def sumC (as : List Ent) : Nat := (as.map (fun u => cst u.1)).sum
theorem cst_args : ∀ (as : List Ent), cst (argT as) = sumC as
  | [] => rfl
  | [u] => by
    show cst u.1 = cst u.1 + 0
    omega
  | u :: v :: r => by
    rw [argT, cst_app, cst_cons, if_neg (by decide), cst_args (v :: r)]
    show _ = cst u.1 + sumC (v :: r)
    omega
def recC (r : Option Ent) : Nat := match r with
  | none => 0
  | some e => cst e.1
theorem cst_tx {dec : Nat → Option Dec} {τ : Tup} (h : WF dec τ) : cst (txT dec τ) = 1 + recC τ.2.1 + (if (memQ dec τ.1).1 = 0 then 0 else sumC τ.2.2) := by
  have hx := h.2.1
  unfold txT preT tailT
  rw [cst_app]
  have e1 : cst (if (memQ dec τ.1).1 = 2 then wNewS ++ [65 + τ.1.1] else frontT τ.1 τ.2.1 ++ 46 :: (memQ dec τ.1).2.2.2.1) = 1 + recC τ.2.1 := by
    split
    · next hm =>
      have r1 : τ.2.1 = none := by
        cases hr : τ.2.1 with
        | none => rfl
        | some u => exact absurd hm (h.2.2.1 u hr).2
      rw [r1, cst_app, cst_cons, if_neg (by omega)]
      rfl
    · rw [cst_app, cst_cons, if_pos (Or.inl rfl), cst_low h.1.2.1.1]
      unfold frontT recC
      cases hr : τ.2.1 with
      | none =>
        show cst [65 + τ.1.1] + _ = _
        rw [cst_cons, if_neg (by omega)]
        rfl
      | some u =>
        show cst u.1 + (1 + 0) = 1 + cst u.1
        omega
  rw [e1]
  split
  · rfl
  · rw [List.cons_append, cst_cons, if_neg (by decide), cst_app, cst_args, cst_cons, if_neg (by decide)]
    show _ = _ + sumC τ.2.2
    have : cst ([] : List Nat) = 0 := rfl
    omega
