theorem am_args_mem : ∀ (as : List Value) (k j : Nat) (w : Value), as.all am_c1 = true → as[j]? = some w → (k + j, w) ∈ lv_args k as
  | [], k, j, w, _, h => by simp at h
  | v :: vs, k, j, w, hc, h => by
    simp only [List.all_cons, Bool.and_eq_true] at hc
    have hv : ¬ v.category = 2 := by rw [am_c1_cat hc.1]; decide
    show _ ∈ (k, v) :: lv_args (if v.category = 2 then k + 2 else k + 1) vs
    rw [if_neg hv]
    cases j with
    | zero =>
      rw [List.getElem?_cons_zero] at h
      cases h
      exact List.mem_cons_self
    | succ j =>
      rw [List.getElem?_cons_succ] at h
      have := am_args_mem vs (k + 1) j w hc.2 h
      rw [show k + (j + 1) = k + 1 + j by omega]
      exact List.mem_cons_of_mem _ this
theorem am_sl_len : ∀ (as : List Value), as.all am_c1 = true → (lg_sl as).length = as.length
  | [], _ => rfl
  | v :: vs, hc => by
    simp only [List.all_cons, Bool.and_eq_true] at hc
    have hv : ¬ v.category = 2 := by rw [am_c1_cat hc.1]; decide
    have ih := am_sl_len vs hc.2
    unfold lg_sl at ih ⊢
    rw [List.flatMap_cons, if_neg hv, List.length_append, ih]
    simp
    omega
theorem am_ent_get {ml : Nat} {as : List Value} {j : Nat} {w : Value} (h : am_get (am_ent ml as) j = some w) : as[j]? = some w := by
  unfold am_get at h
  split at h
  · next v e =>
    cases h
    unfold am_ent at e
    by_cases hj : j < as.length
    · rw [List.getElem?_append_left (by rw [List.length_map]; exact hj), List.getElem?_map] at e
      cases h2 : as[j]? with
      | none => rw [h2] at e; cases e
      | some z => rw [h2] at e; cases e; rfl
    · rw [List.getElem?_append_right (by rw [List.length_map]; omega), List.getElem?_replicate] at e
      split at e
      · cases e
      · cases e
  · cases h
theorem am_ent_ls {ls : Array Slot} {n : Nat} {as : List Value} (h : as.length ≤ n) (hc : as.all am_c1 = true) (hl : lv_has ls n (lv_args 0 as)) : am_ls ls n (am_ent n as) := by
  refine ⟨⟨hl.1, hl.2.1, ?_⟩, ?_, ?_⟩
  · rintro ⟨j, w⟩ hq
    have := am_args_mem as 0 j w hc (am_ent_get (am_as_mem.mp hq))
    rw [Nat.zero_add] at this
    exact hl.2.2 (j, w) this
  · unfold am_ent
    rw [List.length_append, List.length_map, List.length_replicate]
    omega
  · intro i v hv
    exact am_c1_cat (List.all_eq_true.mp hc v (List.mem_of_getElem? (am_ent_get hv)))
/-- a method's start and end, by the abstract heap -/
def am_Pc (D : va_G) (cl : List vw_C) (b0 : Nat) (GL : State → Prop) (as : List Value) (σ : am_H) (top : Nat) : Array Value → State → Prop := va_Pc as (fun U => am_dy D cl b0 U σ top U.heap ∧ GL U)
def am_Qc (D : va_G) (cl : List vw_C) (b0 : Nat) (res : am_R) : Array Value → State → Outcome → State → Prop := fun _ st oc t => (∃ v, res.1 = .inl v ∧ oc = .returned v) ∧ am_dy D cl b0 t res.2.1 res.2.2.1 t.heap ∧ va_F (fun q => b0 ≤ q) st t
/-- the facts that move with the tables, as long as the cells below b0 stay -/
def am_mv (b0 : Nat) (GL : State → Prop) : Prop := ∀ s U : State, s.WarmedH U.vm → s.heap.size ≤ U.heap.size → (∀ q : Nat, q < s.heap.size → ¬ b0 ≤ q → U.heap[q]? = s.heap[q]?) → GL s → GL U
theorem am_blind {D : va_G} {cl : List vw_C} {b0 : Nat} {GL : State → Prop} (hmv : am_mv b0 GL) (as : List Value) (σ : am_H) (top : Nat) : FrameBlind (am_Pc D cl b0 GL as σ top) := by
  intro a U g mk h
  obtain ⟨h1, h2, h3⟩ := h
  exact ⟨h1, h2.moved (U := U.calling g mk a) (Vm.Alike.refl U.vm), hmv U (U.calling g mk a) (State.WarmedH.refl U) (Nat.le_refl _) (fun _ _ _ => rfl) h3⟩
section AMR
variable {p : Program} {l : Launch} {e : Env} {R : Room} {s : State} {m : MethodId} {args : Array Value} {below : List Frame} {meth : Method} {c : Code} {Q : State → Prop}
variable {cc : ByteArray} {D : va_G} {cl : List vw_C} {b0 nL c0 s0 : Nat} {pc top sl : Nat} {lv : am_V} {st rest : List Value} {σ : am_H}
theorem am_w_run {mc ms : Nat} {res : am_R} {r : Option Value} {ar : Array Value} (hres : res.1 = .inl r) (htop : res.2.2.1 = top + mc) (hsl : res.2.2.2 = sl + ms)
    (hr : ∀ (ls : Array Slot) (H : Heap) (locs : List Loc) (cells slots : Nat), am_inv D cl b0 s nL c0 s0 lv σ top sl ls H locs cells slots → va_Run p l e R s m args below meth c H locs cells slots mc ms (F0 m pc ls st) rest (am_Qc D cl b0 res ar) (fun q => b0 ≤ q))
    (k : am_W p l e R s m args below meth c Q D cl b0 nL c0 s0 (pc + 3) lv (r.toList ++ rest) (res.2.1) (res.2.2.1) (res.2.2.2)) : am_W p l e R s m args below meth c Q D cl b0 nL c0 s0 pc lv st σ top sl := by
  intro ls H locs cells slots h T hT X
  obtain ⟨v, st₀, t, T', L, h0, X', hL, e1, e2, ⟨⟨v2, hv, hv2⟩, hdy, hz, hk⟩, stp⟩ := hr ls H locs cells slots h T hT X
  rw [hres] at hv
  cases hv
  cases hv2
  have hal : s.vm.Alike t.vm := by rw [← e2]; exact X'.warmed.alike
  have hS := h.2.2.1
  obtain ⟨hc, hs⟩ := h.2.2.2
  rw [h0] at hz hk
  obtain ⟨t2, a1, b1⟩ := k ls T'.heap (locs ++ L) (cells + mc) (slots + ms) ⟨h.1, by rw [e1]; exact hdy.moved hal.symm, ⟨Nat.le_trans hS.1 (by rw [e1]; exact hz), fun q h1 h2 => by
      rw [e1, hk q (Nat.lt_of_lt_of_le h1 hS.1) h2]
      exact hS.2.1 q h1 h2, fun q hq => by
      rcases List.mem_append.mp hq with z | z
      · exact hS.2.2 q z
      · exact hL q z⟩, by omega, by omega⟩ T' rfl X'
  exact ⟨t2, stp t2 a1, b1⟩
/-- what the tables say of a call -/
def am_cc (t : am_T) (yn : Nat → MethodName) (ws : Nat → List Cond) (s : State) (args : Array Value) (y u v : Nat) : Prop :=
  (∀ w ∈ ws u, ∀ (a' : Array Value) (U : State), s.WarmedH U.vm → w.before a' U = true) ∧ (Cond.initialized (yn u).cls).before args s = true ∧ ((yn u).cls ≠ "java/lang/invoke/MethodHandle" ∧ (yn u).cls ≠ "java/lang/invoke/VarHandle") ∧ (parseMethodDescriptor (yn u).desc).map (fun d => d.parameters.length) = some v ∧ t.2.1 u ≤ 45
def am_lk (yn : Nat → MethodName) (s : State) (args : Array Value) (own : String) (idx u : Nat) : Prop := (Cond.methodLink own idx (yn u)).before args s = true ∨ ∃ host, (Cond.methodLinkNest own idx (yn u) host).before args s = true
def am_cf (t : am_T) (yn : Nat → MethodName) (rtt : Nat → Option FieldType) (ws : Nat → List Cond) (s : State) (args : Array Value) (y : Nat) (i : Instr) (u v : Nat) : Prop := match i with
  | .invokevirtual idx => u < 1000 → am_cc t yn ws s args y u v ∧ am_lk yn s args (yn y).cls idx u ∧ (Cond.instanceMethod (yn u)).before args s = true ∧ (Cond.selects (yn u).cls (yn u) (yn u)).before args s = true ∧ t.2.2.2.2.2.2.1 (t.2.2.2.2.2.2.2.1 u) = (yn u).cls ∧ am_hs t u = [] ∧ (am_hs t y = [] ∨ (Cond.methodLink (yn y).cls idx (yn u)).before args s = true)
  | .invokespecial idx => u < 1000 → am_cc t yn ws s args y u v ∧ am_lk yn s args (yn y).cls idx u ∧ (Cond.instanceMethod (yn u)).before args s = true ∧ (yn u).name = "<init>" ∧ rtt u = none ∧ am_hs t u = [] ∧ am_hs t y = []
  | .invokestatic idx => u < 1000 → am_cc t yn ws s args y u v ∧ am_lk yn s args (yn y).cls idx u ∧ (Cond.static (yn u)).before args s = true ∧ am_hs t y = [] ∧ (am_hs t u = [] ∨ (Cond.methodLink (yn y).cls idx (yn u)).before args s = true)
  | _ => True
theorem am_callB {t : am_T} {yn : Nat → MethodName} {bt : Nat → ByteArray} {rtt : Nat → Option FieldType} {ws : Nat → List Cond} {y u v d mc ms : Nat} {ws' : List Cond} (hws : ws u = .code (yn u) (bt u) (t.2.1 u) (rtt u) :: ws') (h : am_cc t yn ws s args y u v) (hfr : d + 1 ≤ R.frames) (hlo : 64 * (d + 1) ≤ R.locals) {own : String} {idx : Nat}
    (hl : (Cond.methodLink own idx (yn u)).before args s = true) : CallB R s args own idx (yn u) (bt u) (t.2.1 u) (rtt u) (ws u) { frames := d, cells := mc, slots := ms, locals := 64 * d } mc ms v := by
  obtain ⟨h1, h2, h3, h4, h5⟩ := h
  have hc : Cond.code (yn u) (bt u) (t.2.1 u) (rtt u) ∈ ws u := by rw [hws]; exact List.mem_cons_self
  refine ⟨rfl, rfl, hfr, by show 8 + (t.2.1 u + 11) + 64 * d ≤ _; omega, h1, hc, h1 _ hc args s (State.WarmedH.refl s), h2, h3, fun sig hs => ?_, hl⟩
  rw [hs] at h4
  exact (Option.some.inj h4).symm
theorem am_callN {t : am_T} {yn : Nat → MethodName} {bt : Nat → ByteArray} {rtt : Nat → Option FieldType} {ws : Nat → List Cond} {y u v d mc ms : Nat} {ws' : List Cond} (hws : ws u = .code (yn u) (bt u) (t.2.1 u) (rtt u) :: ws') (h : am_cc t yn ws s args y u v) (hfr : d + 1 ≤ R.frames) (hlo : 64 * (d + 1) ≤ R.locals) {own host : String} {idx : Nat}
    (hl : (Cond.methodLinkNest own idx (yn u) host).before args s = true) : va_CN R s args own idx (yn u) host (bt u) (t.2.1 u) (rtt u) (ws u) { frames := d, cells := mc, slots := ms, locals := 64 * d } mc ms v := by
  obtain ⟨h1, h2, h3, h4, h5⟩ := h
  have hc : Cond.code (yn u) (bt u) (t.2.1 u) (rtt u) ∈ ws u := by rw [hws]; exact List.mem_cons_self
  refine ⟨⟨rfl, rfl, hfr, by show 8 + (t.2.1 u + 11) + 64 * d ≤ _; omega, h1, hc⟩, h1 _ hc args s (State.WarmedH.refl s), h2, h3, fun sig hs => ?_, hl⟩
  rw [hs] at h4
  exact (Option.some.inj h4).symm
end AMR
