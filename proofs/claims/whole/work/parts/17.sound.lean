/-- a call, told by its instruction -/
theorem am_call_inv {mc : Nat → Nat} {d : Nat} {st : List Value} {σ : am_H} {i : Instr} {u v : Nat} {as rest : List Value} (h : am_call mc d st σ i u v = some (as, rest)) :
    ¬ d = 0 ∧ st = as.reverse ++ rest ∧ ((∃ idx, i = .invokestatic idx ∧ as.length = v) ∨ (∃ idx b as', i = .invokespecial idx ∧ as = .ref b :: as' ∧ as'.length = v) ∨
      (∃ idx b as', i = .invokevirtual idx ∧ as = .ref b :: as' ∧ as'.length = v ∧ ((∃ fs, σ b = some (.inr (.inl (mc u, fs)))) ∨ ((∃ av f, σ b = some (.inr (.inr (1, av, f)))) ∧ mc u = 50)))) := by
  have hlen : ∀ (b : Nat) (r : List Value), st.drop v = .ref b :: r → st = (.ref b :: (st.take v).reverse).reverse ++ r ∧ ((st.take v).reverse).length = v := by
    intro b r hd
    constructor
    · rw [List.reverse_cons, List.reverse_reverse, List.append_assoc]
      show st = st.take v ++ (.ref b :: r)
      rw [← hd, List.take_append_drop]
    · rw [List.length_reverse, List.length_take]
      have : v < st.length := by
        have h2 : (st.drop v).length = r.length + 1 := by rw [hd]; rfl
        rw [List.length_drop] at h2
        omega
      omega
  cases i with
  | invokestatic idx =>
    dsimp only [am_call] at h
    split at h
    · cases h
    · next hd =>
      cases h
      refine ⟨fun z => hd (Or.inl z), by rw [List.reverse_reverse, List.take_append_drop], Or.inl ⟨idx, rfl, ?_⟩⟩
      rw [List.length_reverse, List.length_take]
      have : ¬ st.length < v := fun z => hd (Or.inr z)
      omega
  | invokespecial idx =>
    dsimp only [am_call] at h
    split at h
    · cases h
    · next hd =>
      split at h
      · next b r hdr =>
        cases h
        exact ⟨hd, (hlen _ _ hdr).1, Or.inr (Or.inl ⟨idx, b, _, rfl, rfl, (hlen _ _ hdr).2⟩)⟩
      · cases h
  | invokevirtual idx =>
    dsimp only [am_call] at h
    split at h
    · cases h
    · next hd =>
      split at h
      · next b r hdr =>
        split at h
        · next c1 fs hb =>
          split at h
          · next hc =>
            cases h
            subst hc
            exact ⟨hd, (hlen _ _ hdr).1, Or.inr (Or.inr ⟨idx, b, _, rfl, rfl, (hlen _ _ hdr).2, Or.inl ⟨fs, hb⟩⟩)⟩
          · cases h
        · next av f1 hb =>
          split at h
          · next hc =>
            cases h
            exact ⟨hd, (hlen _ _ hdr).1, Or.inr (Or.inr ⟨idx, b, _, rfl, rfl, (hlen _ _ hdr).2, Or.inr ⟨⟨av, f1, hb⟩, hc⟩⟩)⟩
          · cases h
        · cases h
      · cases h
  | _ => exact absurd (show (none : Option (List Value × List Value)) = some (as, rest) from h) (fun z => by cases z)
/-- what an end's instruction answers -/
def am_ro (i : Instr) (ro : Option FieldType) : Prop := match i with
  | .ireturn => ro ≠ none
  | .areturn => ro ≠ none
  | .return_ => ro = none
  | _ => True
/-- what a walk of method y needs of its frame -/
def am_cx (t : am_T) (yn : Nat → MethodName) (bt : Nat → ByteArray) (ws : Nat → List Cond) (GL : State → Prop) (p : Program) (R : Room) (s : State) (m : MethodId) (args : Array Value) (meth : Method) (c : Code) (y d : Nat) (res : am_R) (c0 s0 : Nat) : Prop :=
  p.tables.exec = Jvm.exec ∧ c.code = bt y ∧ c.maxLocals = t.2.1 y ∧ s.vm.findClass (yn y).cls = some m.cls ∧ (∀ w ∈ ws y, w.before args s = true) ∧ GL s ∧ meth.name = (yn y).name ∧ d ≤ R.frames ∧ 64 * d ≤ R.locals ∧ res.2.2.1 ≤ R.cells + c0 ∧ res.2.2.2 ≤ R.slots + s0 ∧ c.exceptionTable.toList.map am_he = (am_hs t y).map Prod.fst ∧ meth.locks = false
/-- a run of n steps that ends is the machine's -/
def am_Wp (t : am_T) (cs : Nat → Value) (D : va_G) (cl : List vw_C) (b0 : Nat) (yn : Nat → MethodName) (bt : Nat → ByteArray) (ws : Nat → List Cond) (GL : State → Prop) (l : Launch) (n : Nat) : Prop :=
  ∀ (d y pc : Nat) (lv : am_V) (st : List Value) (σ : am_H) (top sl : Nat) (res : am_R), am_run t cs n d y pc lv st σ top sl = some res → ∀ (p : Program) (e : Env) (R : Room) (s : State) (m : MethodId) (args : Array Value) (below : List Frame) (meth : Method) (c : Code) (Q : State → Prop) (c0 s0 : Nat), am_cx t yn bt ws GL p R s m args meth c y d res c0 s0 →
    (∀ (pc' : Nat) (lv' : am_V) (st' : List Value) (i : Instr) (u v : Nat), t.1 y pc' = some (i, u, v) → am_end (t.2.2.1 y) st' i = some res.1 → am_W p l e R s m args below meth c Q D cl b0 (t.2.1 y) c0 s0 pc' lv' st' res.2.1 res.2.2.1 res.2.2.2) →
    (∀ (pc' : Nat) (lv' : am_V) (st' : List Value) (σ' : am_H) (top' sl' : Nat) (i : Instr) (u v : Nat), t.1 y pc' = some (i, u, v) → am_kind i u = 3 → 6 ≤ d → (st'.map fun w => w.category).sum ≤ 8 → res = (.inr top', am_up σ' top' (.inr (.inl (u, []))), top' + 1, sl' + t.2.2.2.2.2.1 u) → am_W p l e R s m args below meth c Q D cl b0 (t.2.1 y) c0 s0 pc' lv' st' σ' top' sl') →
    am_W p l e R s m args below meth c Q D cl b0 (t.2.1 y) c0 s0 pc lv st σ top sl
/-- the word on a method's code -/
def am_hc (t : am_T) (yn : Nat → MethodName) (bt : Nat → ByteArray) (rtt : Nat → Option FieldType) (y : Nat) : Cond := match am_hs t y with
  | [] => .code (yn y) (bt y) (t.2.1 y) (rtt y)
  | h :: r => .codeWith (yn y) (bt y) (t.2.1 y) (rtt y) ((h :: r).map Prod.fst)
/-- what is known of the tables -/
def am_good (t : am_T) (cs : Nat → Value) (cl : List vw_C) (b0 : Nat) (yn : Nat → MethodName) (bt : Nat → ByteArray) (rtt : Nat → Option FieldType) (ws : Nat → List Cond) (GL : State → Prop) : Prop :=
  (∀ k r, cl[k]? = some r → r.1 = t.2.2.2.2.2.2.1 k) ∧ am_mv b0 GL ∧
  (∀ y pc x, t.1 y pc = some x → y < 1000 ∧ (y ≠ 0 → ∃ ws', ws y = am_hc t yn bt rtt y :: ws') ∧ plainName (yn y).cls = true ∧ (∀ ty, rtt y = some ty → t.2.2.1 y = ty)) ∧
  (∀ y pc i u v, t.1 y pc = some (i, u, v) → ∀ (s : State) (args : Array Value) (meth : Method), GL s → (∀ w ∈ ws y, w.before args s = true) → meth.name = (yn y).name →
    am_dec (bt y) pc i ∧ am_fact cs t.2.2.2.1 t.2.2.2.2.1 t.2.2.2.2.2.1 t.2.2.2.2.2.2.1 cl b0 s args meth (yn y).cls pc i u v ∧ am_cf t yn rtt ws s args y i u v ∧ am_ro i (rtt y)) ∧
  (∀ y pc i u v, t.1 y pc = some (i, u, v) → am_kind i u = 1 → u ≠ 0) ∧
  (∀ y pc i u v, t.1 y pc = some (i, u, v) → am_kind i u = 3 → ∃ idx T0, i = .new idx ∧ am_hs t y = [] ∧ t.2.2.2.2.2.1 u = 6 ∧ cl[u]? = some (t.2.2.2.2.2.2.1 u, T0, 0) ∧ ∀ (s : State) (args : Array Value), GL s → am_tf s args (bt y) (yn y).cls (t.2.2.2.2.2.2.1 u) pc idx v) ∧
  (∀ y h, h ∈ am_hs t y → h.1.2.2.2 ≠ 0 ∧ (∃ r, cl[h.2]? = some r) ∧ ∀ (s : State) (args : Array Value), GL s → (Cond.classLink (yn y).cls h.1.2.2.2 (t.2.2.2.2.2.2.1 h.2)).before args s = true ∧ ∀ (c : Nat) (r : vw_C), 12 ≤ c → cl[c]? = some r → ∀ i j, s.vm.findClass (t.2.2.2.2.2.2.1 c) = some i → s.vm.findClass (t.2.2.2.2.2.2.1 h.2) = some j → s.vm.assignable i j = decide (c = h.2))
/-- the library's members do what am_bi says -/
def am_bok (t : am_T) (cs : Nat → Value) (D : va_G) (cl : List vw_C) (b0 : Nat) (yn : Nat → MethodName) (bt : Nat → ByteArray) (ws : Nat → List Cond) (GL : State → Prop) (l : Launch) : Prop :=
  ∀ (d y pc : Nat) (lv : am_V) (σ σ1 : am_H) (top sl : Nat) (res : am_R) (i : Instr) (u v : Nat) (as rest : List Value) (r : Option Value), t.1 y pc = some (i, u, v) → 1000 < u → ¬ d = 0 → am_call t.2.2.2.2.2.2.2.1 d (as.reverse ++ rest) σ i u v = some (as, rest) → am_bi u as σ = some (r, σ1) → (rest.map fun w => w.category).sum ≤ 8 →
    ∀ (p : Program) (e : Env) (R : Room) (s : State) (m : MethodId) (args : Array Value) (below : List Frame) (meth : Method) (c : Code) (Q : State → Prop) (c0 s0 : Nat), am_cx t yn bt ws GL p R s m args meth c y d res c0 s0 → top ≤ res.2.2.1 → sl ≤ res.2.2.2 →
    am_W p l e R s m args below meth c Q D cl b0 (t.2.1 y) c0 s0 (pc + 3) lv (r.toList ++ rest) σ1 top sl → am_W p l e R s m args below meth c Q D cl b0 (t.2.1 y) c0 s0 pc lv (as.reverse ++ rest) σ top sl
section AMM
variable {t : am_T} {cs : Nat → Value} {D : va_G} {cl : List vw_C} {b0 : Nat} {yn : Nat → MethodName} {bt : Nat → ByteArray} {rtt : Nat → Option FieldType} {ws : Nat → List Cond} {GL : State → Prop} {l : Launch}
theorem am_w_ends {p : Program} {e : Env} {R : Room} {s : State} {m : MethodId} {args : Array Value} {below : List Frame} {meth : Method} {c : Code} {cc : ByteArray} {nL c0 s0 pc : Nat} {lv : am_V} {st : List Value} {res : am_R} {i : Instr} {ro : Option FieldType} {rt : FieldType} {vr : Option Value}
    (hx : p.tables.exec = Jvm.exec) (hb : c.code = cc) (hr : meth.sig.returnType = ro) (hrt : ∀ ty, ro = some ty → rt = ty) (hro : am_ro i ro) (hlocks : meth.locks = false) (hd : am_dec cc pc i) (he : am_end rt st i = some res.1) (hv : res.1 = .inl vr) :
    am_W p l e R s m args below meth c (MQ below (am_Qc D cl b0 res) args s (res.2.2.1 - c0) (res.2.2.2 - s0) (fun q => b0 ≤ q)) D cl b0 nL c0 s0 pc lv st res.2.1 res.2.2.1 res.2.2.2 := by
  intro ls H locs cells slots h
  obtain ⟨hc, hs⟩ := h.2.2.2
  have e1 : cells = res.2.2.1 - c0 := by omega
  have e2 : slots = res.2.2.2 - s0 := by omega
  rw [← e1, ← e2]
  have hq : ∀ t : State, t.heap = H → s.WarmedH t.vm → am_Qc D cl b0 res args s (.returned vr) t := fun t ht hW => ⟨⟨vr, hv, rfl⟩, by rw [ht]; exact h.2.1.moved hW.alike, h.2.2.1.F ht⟩
  rw [hv] at he
  cases i with
  | ireturn =>
    dsimp only [am_end] at he
    split at he
    · next x =>
      split at he
      · next hf =>
        cases he
        cases ro with
        | none => exact absurd rfl hro
        | some ty =>
          obtain rfl := hrt ty rfl
          exact W.zret hx hb hr (am_fr_ok hf) hq h.2.2.1.2.2 (am_dec1 hd rfl)
      · cases he
    · cases he
  | areturn =>
    dsimp only [am_end] at he
    have hrf : ∀ v : Value, (v = .null ∨ ∃ a, v = .ref a) → am_fr rt v = true → ((∃ n, rt = .object n) ∨ ∃ t, rt = .array t) := by
      intro v hv2 hf
      rcases hv2 with rfl | ⟨a, rfl⟩ <;> cases rt <;> first | exact Or.inl ⟨_, rfl⟩ | exact Or.inr ⟨_, rfl⟩ | cases hf
    split at he
    · next a =>
      split at he
      · next hf =>
        cases he
        cases ro with
        | none => exact absurd rfl hro
        | some ty =>
          obtain rfl := hrt ty rfl
          exact W.aret hx hb hr (hrf _ (Or.inr ⟨a, rfl⟩) hf) (Or.inr ⟨a, rfl⟩) hq h.2.2.1.2.2 (am_dec1 hd rfl)
      · cases he
    · split at he
      · next hf =>
        cases he
        cases ro with
        | none => exact absurd rfl hro
        | some ty =>
          obtain rfl := hrt ty rfl
          exact W.aret hx hb hr (hrf _ (Or.inl rfl) hf) (Or.inl rfl) hq h.2.2.1.2.2 (am_dec1 hd rfl)
      · cases he
    · cases he
  | return_ =>
    dsimp only [am_end] at he
    split at he
    · cases he
      exact W.vret hx hb (hr.trans hro) hq h.2.2.1.2.2 (am_dec1 hd rfl)
    · cases he
  | _ => exact absurd (show (none : Option (Option Value ⊕ Nat)) = some (.inl vr) from he) (fun z => by cases z)
theorem am_end_inl {rt : FieldType} {st : List Value} {i : Instr} {r : Option Value ⊕ Nat} (h : am_end rt st i = some r) : ∃ v, r = .inl v := by
  unfold am_end at h
  split at h
  · split at h
    · split at h
      · cases h; exact ⟨_, rfl⟩
      · cases h
    · cases h
  · split at h
    · split at h
      · cases h; exact ⟨_, rfl⟩
      · cases h
    · split at h
      · cases h; exact ⟨_, rfl⟩
      · cases h
    · cases h
  · split at h
    · cases h; exact ⟨_, rfl⟩
    · cases h
  · cases h
end AMM
