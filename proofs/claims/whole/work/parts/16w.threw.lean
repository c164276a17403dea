section AMX
variable {p : Program} {l : Launch} {e : Env} {R : Room} {s : State} {m : MethodId} {args : Array Value} {below : List Frame} {meth : Method} {c : Code} {T : State} {locs : List Loc} {cells slots : Nat}
/-- an entry's class, as it is linked -/
theorem am_ent_link (X : Stand p l e R s m args below meth c T locs cells slots) {own N : String} {i : Nat} (hown : s.vm.findClass own = some m.cls) (hl : (Cond.classLink own i N).before args s = true) {kN : ClassId} (hN : s.vm.findClass N = some kN) {vm1 : Vm} (hW : s.WarmedH vm1) :
    vm1.ClassLinks e.platform m.cls i kN ∧ s.WarmedH (vm1.noted m.cls i (.cls kN)) ∧ ∃ z, vm1.classes[kN]? = some z := by
  have hpl : e.platform.magicAccessors = ({} : Platform).magicAccessors := by rw [X.admits.platform]
  obtain ⟨c', hc', hcl⟩ := Cond.classLink_spec hown hl e.platform hpl
  cases hN.symm.trans hc'
  obtain ⟨dk, _, _, kt, hd, _, _, _, _, hkt, _, hopen⟩ := hcl.here
  obtain ⟨kt', hkt', -⟩ := hW.alike.2.2 _ _ hkt
  exact ⟨hW.classLinks hcl, hW.noted hd hopen (State.rightAt_cls hcl), kt', hkt'⟩
theorem am_find1 (X : Stand p l e R s m args below meth c T locs cells slots) {g : JFrame} (hg : g.method = m) {a : Addr} {cell : Cell} {own N : String} {kN : ClassId} {x : ExceptionTableEntry} {tl : List ExceptionTableEntry} (hown : s.vm.findClass own = some m.cls) (htab : c.exceptionTable.toList = x :: tl)
    (hx : covers x g.pc = true) (h0 : x.catchType ≠ 0) (hl : (Cond.classLink own x.catchType N).before args s = true) (hN : s.vm.findClass N = some kN) (hcell : T.heap[a]? = some cell) (hobj : ∀ z, cell.vm ≠ .statics z) (hcc : ∃ z, s.vm.classes[cell.cls]? = some z) (hasg : s.vm.assignable cell.cls kN = true) :
    ∃ vm', s.WarmedH vm' ∧ ∀ (Q : Handler → Pre) (E : CtlPost) (d : Bool) (acts : List Action), wp (findHandler g a) Q E e d acts ((T.setTop g).pushFrame (.throwing a)) ↔ Q (.found x.handlerPc) d acts (((T.setTop g).pushFrame (.throwing a)).setVm vm') := by
  subst hg
  obtain ⟨k1, k2, k3⟩ := am_ent_link X hown hl hN X.warmed
  obtain ⟨z, hz⟩ := hcc
  obtain ⟨z', hz', -⟩ := X.warmed.alike.2.2 _ _ hz
  refine ⟨_, k2, fun Q E d acts => ?_⟩
  rw [W.findHandler_eq (s := (T.setTop g).pushFrame (.throwing a)) (f := g) X.method' X.code, htab]
  rw [am_seek (s := (T.setTop g).pushFrame (.throwing a)) (f := g) (k := kN) (cell := cell) hx h0 k1 hcell hobj ⟨z', hz'⟩ k3]
  rw [if_pos (show ((T.setTop g).pushFrame (.throwing a)).vm.assignable cell.cls kN = true from (X.warmed.alike.assignable _ _).trans hasg)]
  exact Iff.rfl
theorem am_find2 (X : Stand p l e R s m args below meth c T locs cells slots) {g : JFrame} (hg : g.method = m) {a : Addr} {cell : Cell} {own N N1 : String} {kN k1N : ClassId} {x x1 : ExceptionTableEntry} {tl : List ExceptionTableEntry} (hown : s.vm.findClass own = some m.cls) (htab : c.exceptionTable.toList = x1 :: x :: tl)
    (hx1 : covers x1 g.pc = true) (h01 : x1.catchType ≠ 0) (hl1 : (Cond.classLink own x1.catchType N1).before args s = true) (hN1 : s.vm.findClass N1 = some k1N) (hno : s.vm.assignable cell.cls k1N = false)
    (hx : covers x g.pc = true) (h0 : x.catchType ≠ 0) (hl : (Cond.classLink own x.catchType N).before args s = true) (hN : s.vm.findClass N = some kN) (hcell : T.heap[a]? = some cell) (hobj : ∀ z, cell.vm ≠ .statics z) (hcc : ∃ z, s.vm.classes[cell.cls]? = some z) (hasg : s.vm.assignable cell.cls kN = true) :
    ∃ vm', s.WarmedH vm' ∧ ∀ (Q : Handler → Pre) (E : CtlPost) (d : Bool) (acts : List Action), wp (findHandler g a) Q E e d acts ((T.setTop g).pushFrame (.throwing a)) ↔ Q (.found x.handlerPc) d acts (((T.setTop g).pushFrame (.throwing a)).setVm vm') := by
  subst hg
  obtain ⟨k1, k2, k3⟩ := am_ent_link X hown hl1 hN1 X.warmed
  obtain ⟨j1, j2, j3⟩ := am_ent_link X hown hl hN k2
  obtain ⟨z, hz⟩ := hcc
  obtain ⟨z', hz', -⟩ := X.warmed.alike.2.2 _ _ hz
  obtain ⟨z2, hz2, -⟩ := k2.alike.2.2 _ _ hz
  refine ⟨_, j2, fun Q E d acts => ?_⟩
  rw [W.findHandler_eq (s := (T.setTop g).pushFrame (.throwing a)) (f := g) X.method' X.code, htab]
  rw [am_seek (s := (T.setTop g).pushFrame (.throwing a)) (f := g) (k := k1N) (cell := cell) hx1 h01 k1 hcell hobj ⟨z', hz'⟩ k3]
  rw [if_neg (show ¬ ((T.setTop g).pushFrame (.throwing a)).vm.assignable cell.cls k1N = true from fun hh => by
    have := (X.warmed.alike.assignable cell.cls k1N).symm.trans hh
    rw [hno] at this
    cases this)]
  erw [am_seek (s := ((T.setTop g).pushFrame (.throwing a)).setVm (T.vm.noted g.method.cls x1.catchType (.cls k1N))) (f := g) (k := kN) (cell := cell) hx h0 j1 hcell hobj ⟨z2, hz2⟩ j3]
  rw [if_pos (show (((T.setTop g).pushFrame (.throwing a)).setVm (T.vm.noted g.method.cls x1.catchType (.cls k1N))).vm.assignable cell.cls kN = true from (k2.alike.assignable _ _).trans hasg)]
  exact Iff.rfl
/-- the contract of a method that throws -/
def am_MT (l : Launch) (y : MethodName) (ws : List Cond) (rm : Room) (Pc : Array Value → State → Prop) (Qc : Array Value → State → Outcome → State → Prop) (mc ms : Nat) (free : Addr → Prop) : Prop :=
  MetFree l y (headSpec ws rm) Pc (fun _ _ _ _ _ => True) (fun a st o t => Qc a st o t ∧ (∃ x, o = .threw x) ∧ st.WarmedH t.vm ∧ ∃ L, st.sameButNew ({ t with vm := st.vm } : State) L mc ms ∧ ∀ q ∈ L, free q.base)
theorem am_MT_ofW {y : MethodName} {ws ws' : List Cond} {rm : Room} {Pc : Array Value → State → Prop} {Qc : Array Value → State → Outcome → State → Prop} {mc ms : Nat} {free : Addr → Prop} {cc : ByteArray} {maxL : Nat} {ret : Option FieldType} (hy : plainName y.cls = true) (hw : ws = Cond.code y cc maxL ret :: ws')
    (body : ∀ p e s m args below meth c s₁, BodyLoose p l y (headSpec ws rm) cc maxL ret e s m args below meth c s₁ → c.maxLocals = maxL → Pc args s →
      W p l e (headSpec ws rm).room s m args below meth c s.heap [] 0 0 (am_MQT below Qc args s mc ms free) (entryFrame m args maxL)) : am_MT l y ws rm Pc Qc mc ms free := by
  refine MetFree.of_bodyS (code := cc) (maxLocals := maxL) (ret := ret) hy ?_ ?_
  · intro args s m h hn
    obtain ⟨meth, c, h1, h2, h3, h4, h5, h6, -, -⟩ := Cond.code_spec hn (atoms_spec (ws := ws) h _ (by rw [hw]; exact List.mem_cons_self))
    exact ⟨meth, c, h1, h2, h3, h4, h5, h6⟩
  · intro p e s m args below meth c s₁ B hml hP _
    have hh0 : s₁.heap = s.heap := by rw [B.state]; rfl
    obtain ⟨t, a1, o, b1, b2, b3⟩ := body p e s m args below meth c s₁ B hml hP s₁ hh0 (Stand.of_body B)
    exact ⟨t, o, a1, b1, b2, b3⟩
/-- a call on an object, of a method that throws: the note lies over the caller's frame -/
theorem am_threw (X : Stand p l e R s m args below meth c T locs cells slots) (hx : p.tables.exec = Jvm.exec) {own C : String} {index mc ms n : Nat} {y : MethodName} {bytes : ByteArray} {maxL : Nat} {ret : Option FieldType} {ws : List Cond} {rm : Room} {Pc : Array Value → State → Prop} {Qc : Array Value → State → Outcome → State → Prop} {free : Addr → Prop}
    (hown : s.vm.findClass own = some m.cls) (hM : am_MT l y ws rm Pc Qc mc ms free) (cw : CallW R s args own C index y bytes maxL ret ws rm mc ms n) {H : Heap} (hT : T.heap = H) {b : Addr} {As rest : List Value} (hp : PreV s H C b Pc As)
    {g : JFrame} (hg : g.method = m) (hn : As.length = n) (hsize : g.locals.size = c.maxLocals) (hstack : g.stack = As.reverse ++ .ref b :: rest) (hW : 2 * g.monitorRoom + (rest.map fun v => v.category).sum ≤ 8) (hdg : decode c.code g.pc = .ok (.invokevirtual index, 3)) (hf : cells + mc ≤ R.cells ∧ slots + ms ≤ R.slots) :
    ∃ (x : Addr) (st₀ t T' : State) (L : List Loc), st₀.heap = H ∧ Stand p l e R s m args below meth c T' (locs ++ L) (cells + mc) (slots + ms) ∧ (∀ q ∈ L, free q.base) ∧ T'.heap = t.heap ∧ T'.vm = t.vm ∧ Qc (Value.ref b :: As).toArray st₀ (.threw x) t ∧
      ∀ tg, Steps p.tables e below ((T'.setTop { g with stack := rest }).pushFrame (.throwing x)) tg → Steps p.tables e below (T.setTop g) tg := by
  obtain ⟨⟨hrc, hrs, hfr, hlo, hws, hcw, hcode, hini, hy, hlen, hl⟩, hin, hsel⟩ := cw
  obtain ⟨hblind, ⟨cellB, hcB, hoB, hclB⟩, hPc⟩ := hp
  obtain ⟨mk, methM, hnamed, hmethM, hstM, habM⟩ := Cond.instanceMethod_spec hin
  obtain ⟨methM', cM, hmethM', hcM, -, hlM, -, -, -, hsigM⟩ := Cond.code_spec hnamed hcode
  cases hmethM.symm.trans hmethM'
  obtain ⟨c2, r2, m2, q1, q2, q3, q4, kP, hkP, hkPi⟩ := Cond.selects_spec hsel
  cases hclB.symm.trans q1
  cases (State.methodFound?_of_named hnamed hy).symm.trans q2
  cases hnamed.symm.trans q3
  have hselP : selectMethod e.platform s.vm cellB.cls mk = .method mk := by rw [Launch.admits_selectMethod X.admits]; exact q4
  obtain ⟨vm₁, X₁, hstep₁⟩ := X.invokevirtual hx hown hl hnamed hmethM hstM hkP hkPi hy (a := b) (cell := cellB) (by rw [hT]; exact hcB)
    (fun z h => by rw [h] at hoB; cases hoB) hselP hmethM habM hkP hkPi (g := g) hg (argsL := As) (rest := rest) (hn.trans (hlen _ hsigM)) hstack hdg
  have hnU : (T.setVm vm₁).methodNamed? y = some mk := X₁.named hnamed
  have hcodeU := hws _ hcw (Value.ref b :: As).toArray (T.setVm vm₁) X₁.warmed
  have hiniU : (Cond.initialized y.cls).before (Value.ref b :: As).toArray (T.setVm vm₁) = true := word_at X₁.warmed (Or.inl (by first | rfl | simp [Cond.onTables, Cond.keeps, Cond.steady])) hini
  obtain ⟨methY, cY, hmY, hcY, -, hlY, -, -, -, -⟩ := Cond.code_spec hnU hcodeU
  obtain ⟨kY, hkY, -⟩ := className_of_methodNamed hnU
  have hinitY : kY.init = .initialized := Cond.initialized_spec (findClass_of_methodNamed hnU) hkY hiniU
  have h : At (T.setVm vm₁) ({ g with stack := rest } : JFrame).method c below := by
    show At (T.setVm vm₁) g.method c below
    rw [hg]
    exact X₁.here
  have happ : (headSpec ws rm).appliesLoose y e.platform ((T.setVm vm₁).calling { g with stack := rest } mk (Value.ref b :: As).toArray) = true :=
    Spec.appliesLoose_calling (g := { g with stack := rest }) h hdg hnU hkY hinitY
      (X₁.room_calling (g := { g with stack := rest }) (R' := (headSpec ws rm).room) hsize hmY hcY hfr (by rw [hlY]; show 2 * g.monitorRoom + (rest.map fun v => v.category).sum + (maxL + 11) + rm.locals ≤ R.locals; omega) (by show cells + rm.cells ≤ _; rw [hrc]; exact hf.1) (by show slots + rm.slots ≤ _; rw [hrs]; exact hf.2))
      (atoms_intro fun w hw => hws w hw _ _ X₁.warmed)
  obtain ⟨mid, hmid⟩ := h.above
  have hfr2 : ((T.setVm vm₁).setTop { g with stack := rest }).frames = (.java { g with stack := rest } :: mid) ++ below := by rw [State.frames_setTop' _ h.top, hmid]; rfl
  obtain ⟨o, s₂, hsteps, -, hend, hq⟩ := Steps.callFree hM p X.admits X.cas X.clock (acts := []) hfr2 happ (hblind _ _ { g with stack := rest } mk (hPc (T.setVm vm₁) hT X₁.warmed)) trivial
  have hq' : _ ∧ _ := hq
  obtain ⟨hQ, ⟨x, rfl⟩, hWW, L, hsame, hL⟩ := hq'
  have hend' : Ended s₂ (.java { g with stack := rest } :: below) (.threw x) := by
    have e1 : ((T.setVm vm₁).setTop { g with stack := rest }).frames = .java { g with stack := rest } :: below := by
      obtain ⟨g₀, hr⟩ := X₁.frames_eq
      rw [State.frames_setTop' _ h.top, hr]
      rfl
    rw [e1] at hend
    exact hend
  obtain ⟨T', X', hW', -, ht⟩ := X₁.outOfThrown (g := { g with stack := rest }) hg (mk := mk) (a := (Value.ref b :: As).toArray) hend' hWW hsame
  refine ⟨x, (T.setVm vm₁).calling { g with stack := rest } mk (Value.ref b :: As).toArray, s₂, T', L, hT, X', hL, ?_, ?_, hQ, fun tg hs => ?_⟩
  · rw [ht]
    exact (Stand.throwing_heap T' _ x).symm
  · rw [ht]
    exact (Stand.throwing_vm T' _ x).symm
  · refine hstep₁ _ fun acts => ?_
    rw [doInvoke_state]
    rw [← ht] at hs
    exact hsteps.trans hs
end AMX
