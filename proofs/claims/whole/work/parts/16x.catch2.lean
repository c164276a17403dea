section AMY
variable {p : Program} {l : Launch} {e : Env} {R : Room} {s : State} {m : MethodId} {args : Array Value} {below : List Frame} {meth : Method} {c : Code} {T : State} {locs : List Loc} {cells slots : Nat}
def am_he (x : ExceptionTableEntry) : Nat × Nat × Nat × Nat := (x.startPc, x.endPc, x.handlerPc, x.catchType)
theorem am_skip {Q : Handler → Pre} {E : CtlPost} {d : Bool} {acts : List Action} {U : State} {f : JFrame} {a : Addr} {x : ExceptionTableEntry} {t : List ExceptionTableEntry} (hx : ¬ (x.startPc ≤ f.pc ∧ f.pc < x.endPc)) : wp (findHandler.go f a (x :: t)) Q E e d acts U ↔ wp (findHandler.go f a t) Q E e d acts U := by
  have h2 : (decide (x.startPc ≤ f.pc) && decide (f.pc < x.endPc)) = false := by
    rw [Bool.and_eq_false_iff, decide_eq_false_iff_not, decide_eq_false_iff_not]
    exact Decidable.not_and_iff_or_not.mp hx
  rw [findHandler.go]
  simp only [h2]
  rfl
/-- the handlers, one after another -/
theorem am_finds {g : JFrame} (X : Stand p l e R s g.method args below meth c T locs cells slots) {a : Addr} {cell : Cell} {own : String} {nm : Nat → String} {kN : Nat → ClassId} {cx r : Nat} (hown : s.vm.findClass own = some g.method.cls) (hcell : T.heap[a]? = some cell) (hobj : ∀ z, cell.vm ≠ .statics z) (hcc : ∃ z, s.vm.classes[cell.cls]? = some z) :
    ∀ (hs : List ((Nat × Nat × Nat × Nat) × Nat)) (xs : List ExceptionTableEntry) (vm1 : Vm), s.WarmedH vm1 → xs.map am_he = hs.map Prod.fst →
      (∀ h ∈ hs, h.1.2.2.2 ≠ 0 ∧ (Cond.classLink own h.1.2.2.2 (nm h.2)).before args s = true ∧ s.vm.findClass (nm h.2) = some (kN h.2) ∧ s.vm.assignable cell.cls (kN h.2) = decide (cx = h.2)) → am_hw cx g.pc hs = some r →
      ∃ vm', s.WarmedH vm' ∧ ∀ (Q : Handler → Pre) (E : CtlPost) (d : Bool) (acts : List Action), wp (findHandler.go g a xs) Q E e d acts (((T.setTop g).pushFrame (.throwing a)).setVm vm1) ↔ Q (.found r) d acts (((T.setTop g).pushFrame (.throwing a)).setVm vm')
  | [], xs, vm1, hW, hm, hf, h => by cases h
  | y :: hs, [], vm1, hW, hm, hf, h => by cases hm
  | y :: hs, x :: xs, vm1, hW, hm, hf, h => by
    rw [List.map_cons, List.map_cons] at hm
    have hx : am_he x = y.1 := (List.cons.inj hm).1
    have hm' := (List.cons.inj hm).2
    have e1 : x.startPc = y.1.1 := congrArg Prod.fst hx
    have e2 : x.endPc = y.1.2.1 := congrArg (fun z => z.2.1) hx
    have e3 : x.handlerPc = y.1.2.2.1 := congrArg (fun z => z.2.2.1) hx
    have e4 : x.catchType = y.1.2.2.2 := congrArg (fun z => z.2.2.2) hx
    obtain ⟨h0, hl, hN, hasg⟩ := hf y List.mem_cons_self
    unfold am_hw at h
    by_cases hc : y.1.1 ≤ g.pc ∧ g.pc < y.1.2.1
    · rw [if_pos hc] at h
      rw [← e4] at h0 hl
      obtain ⟨k1, k2, k3⟩ := am_ent_link X hown hl hN hW
      obtain ⟨z, hz⟩ := hcc
      obtain ⟨z', hz', -⟩ := hW.alike.2.2 _ _ hz
      have hcv : covers x g.pc = true := by
        show (decide (x.startPc ≤ g.pc) && decide (g.pc < x.endPc)) = true
        rw [e1, e2, Bool.and_eq_true, decide_eq_true_eq, decide_eq_true_eq]
        exact hc
      have hs := fun (Q : Handler → Pre) (E : CtlPost) (d : Bool) (acts : List Action) => am_seek (Q := Q) (E := E) (e := e) (d := d) (acts := acts) (s := ((T.setTop g).pushFrame (.throwing a)).setVm vm1) (f := g) (t := xs) (k := kN y.2) (cell := cell) hcv h0 k1 hcell hobj ⟨z', hz'⟩ k3
      have hasg1 : (((T.setTop g).pushFrame (.throwing a)).setVm vm1).vm.assignable cell.cls (kN y.2) = decide (cx = y.2) := (hW.alike.assignable _ _).trans hasg
      by_cases hcx : cx = y.2
      · rw [if_pos hcx] at h
        obtain rfl := Option.some.inj h
        refine ⟨_, k2, fun Q E d acts => ?_⟩
        rw [hs, if_pos (by rw [hasg1]; exact decide_eq_true hcx), ← e3]
        exact Iff.rfl
      · rw [if_neg hcx] at h
        obtain ⟨vm', q1, q2⟩ := am_finds X hown hcell hobj ⟨z, hz⟩ _ xs _ k2 hm' (fun h hh => hf h (List.mem_cons_of_mem _ hh)) h
        refine ⟨vm', q1, fun Q E d acts => ?_⟩
        rw [hs, if_neg (by rw [hasg1]; exact fun hh => hcx (of_decide_eq_true hh))]
        exact q2 Q E d acts
    · rw [if_neg hc] at h
      obtain ⟨vm', q1, q2⟩ := am_finds X hown hcell hobj hcc hs xs vm1 hW hm' (fun h hh => hf h (List.mem_cons_of_mem _ hh)) h
      refine ⟨vm', q1, fun Q E d acts => ?_⟩
      rw [am_skip (by rw [e1, e2]; exact hc)]
      exact q2 Q E d acts
end AMY
section AMZ
variable {p : Program} {l : Launch} {e : Env} {R : Room} {s : State} {m : MethodId} {args : Array Value} {below : List Frame} {meth : Method} {c : Code} {Q : State → Prop}
variable {cc : ByteArray} {D : va_G} {cl : List vw_C} {b0 nL c0 s0 : Nat} {pc top sl : Nat} {lv : am_V} {st rest : List Value} {σ : am_H}
theorem am_w_catch {mc ms n index : Nat} {res : am_R} {a b cx hp : Nat} {fs As : List Value} {own C : String} {y : MethodName} {bytes : ByteArray} {maxL : Nat} {ret : Option FieldType} {ws : List Cond} {rm : Room} {Pc : Array Value → State → Prop} {nm : Nat → String} {hs : List ((Nat × Nat × Nat × Nat) × Nat)}
    (hx : p.tables.exec = Jvm.exec) (hb : c.code = cc) (hml : c.maxLocals = nL) (hown : s.vm.findClass own = some m.cls) (htab : c.exceptionTable.toList.map am_he = hs.map Prod.fst) (hres : res.1 = .inr a) (htop : res.2.2.1 = top + mc) (hsl : res.2.2.2 = sl + ms) (hnm : ∀ k r, cl[k]? = some r → r.1 = nm k)
    (hM : am_MT l y ws rm Pc (am_QcT D cl b0 res) mc ms (fun q => b0 ≤ q)) (cw : CallW R s args own C index y bytes maxL ret ws rm mc ms n)
    (hpre : ∀ (ls : Array Slot) (H : Heap) (locs : List Loc) (cells slots : Nat), am_inv D cl b0 s nL c0 s0 lv σ top sl ls H locs cells slots → PreV s H C b Pc As ∧ cells + mc ≤ R.cells ∧ slots + ms ≤ R.slots) (hn : As.length = n) (hst : st = As.reverse ++ .ref b :: rest) (hsum : (rest.map fun w => w.category).sum ≤ 8) (hdg : decode cc pc = .ok (.invokevirtual index, 3))
    (hcell : res.2.1 a = some (.inr (.inl (cx, fs))))
    (hf : ∀ h ∈ hs, h.1.2.2.2 ≠ 0 ∧ (Cond.classLink own h.1.2.2.2 (nm h.2)).before args s = true ∧ (∃ r, cl[h.2]? = some r) ∧ ∀ r, cl[cx]? = some r → ∀ i j, s.vm.findClass (nm cx) = some i → s.vm.findClass (nm h.2) = some j → s.vm.assignable i j = decide (cx = h.2)) (hhw : am_hw cx pc hs = some hp)
    (k : am_W p l e R s m args below meth c Q D cl b0 nL c0 s0 hp lv ([.ref a]) (res.2.1) (res.2.2.1) (res.2.2.2)) : am_W p l e R s m args below meth c Q D cl b0 nL c0 s0 pc lv st σ top sl := by
  intro ls H locs cells slots h T hT X
  obtain ⟨hpv, hfc, hfs⟩ := hpre ls H locs cells slots h
  obtain ⟨x, st₀, t, T', L, h0, X', hL, e1, e2, ⟨⟨a', ha', hx'⟩, hdy, hz, hk⟩, stp⟩ := am_threw X hx hown hM cw hT hpv (rest := rest) (g := F0 m pc ls st) rfl hn (by rw [hml]; exact h.1.1.1) hst (by show 2 * 0 + _ ≤ 8; omega) (by rw [hb]; exact hdg) ⟨hfc, hfs⟩
  rw [hres] at ha'
  cases ha'
  cases hx'
  have hal : s.vm.Alike t.vm := by rw [← e2]; exact X'.warmed.alike
  have hdy2 := hdy
  obtain ⟨hsz, hbt, tys, hK, hcl⟩ := hdy2
  obtain ⟨-, -, r1, hr9, -, cell, q1, q2, q3, -⟩ := hcl a _ hcell
  have hKs := va_K.moved hal.symm hK
  have hfcx : s.vm.findClass (nm cx) = some (D.1 cx) := by
    have := (hKs.1 _ r1 hr9).2.1
    rw [hnm _ r1 hr9] at this
    exact this
  obtain ⟨zc, hzc⟩ : ∃ z, s.vm.classes[cell.cls]? = some z := by
    rw [q2]
    exact Vm.classAt_of_findClass hfcx
  obtain ⟨vm', hW', hfind⟩ := am_finds (g := F0 m pc ls rest) X' (a := a) (cell := cell) (nm := nm) (kN := D.1) (cx := cx) hown (by rw [e1]; exact q1) (fun z hh => by rw [q3] at hh; cases hh) ⟨zc, hzc⟩ hs c.exceptionTable.toList T'.vm X'.warmed htab
    (fun y hy => by
      obtain ⟨f1, f2, ⟨r2, f3⟩, f4⟩ := hf y hy
      have hfy : s.vm.findClass (nm y.2) = some (D.1 y.2) := by
        have := (hKs.1 _ r2 f3).2.1
        rw [hnm _ r2 f3] at this
        exact this
      exact ⟨f1, f2, hfy, by rw [q2]; exact f4 r1 hr9 _ _ hfcx hfy⟩) hhw
  have hS := h.2.2.1
  obtain ⟨hc, hs⟩ := h.2.2.2
  rw [h0] at hz hk
  obtain ⟨t2, a1, b1⟩ := k ls T'.heap (locs ++ L) (cells + mc) (slots + ms) ⟨h.1, by rw [e1]; exact hdy.moved hal.symm, ⟨Nat.le_trans hS.1 (by rw [e1]; exact hz), fun q h1 h2 => by
      rw [e1, hk q (Nat.lt_of_lt_of_le h1 hS.1) h2]
      exact hS.2.1 q h1 h2, fun q hq => by
      rcases List.mem_append.mp hq with z | z
      · exact hS.2.2 q z
      · exact hL q z⟩, by omega, by omega⟩ (T'.setVm vm') rfl (X'.noted hW')
  refine ⟨t2, stp t2 (am_caught (c := c) (g := F0 m pc ls rest) (vm' := vm') X'.here (fun Q E d acts => ?_) a1), b1⟩
  rw [W.findHandler_eq (s := (T'.setTop (F0 m pc ls rest)).pushFrame (.throwing a)) (f := F0 m pc ls rest) X'.method' X'.code]
  exact hfind Q E d acts
/-- a call of a method that has handlers of its own -/
theorem am_runSW {y : MethodName} {bytes : ByteArray} {maxL mc ms n index : Nat} {ret : Option FieldType} {hh : List (Nat × Nat × Nat × Nat)} {ws : List Cond} {rm : Room} {Pc : Array Value → State → Prop} {Qc : Array Value → State → Outcome → State → Prop} {free : Addr → Prop} {own : String} {As : List Value} {g : JFrame} {H : Heap} {locs : List Loc} {cells slots : Nat}
    (hx : p.tables.exec = Jvm.exec) (hb : c.code = cc) (hml : c.maxLocals = nL) (hown : s.vm.findClass own = some m.cls) (hM : Met l y ws rm Pc Qc mc ms free) (hrc : rm.cells = mc) (hrs : rm.slots = ms) (hfr : rm.frames + 1 ≤ R.frames) (hlo : 8 + (maxL + 11) + rm.locals ≤ R.locals)
    (hws : ∀ w ∈ ws, ∀ (a' : Array Value) (U : State), s.WarmedH U.vm → w.before a' U = true) (hcw : Cond.codeWith y bytes maxL ret hh ∈ ws) (hini : (Cond.initialized y.cls).before args s = true) (hy : y.cls ≠ "java/lang/invoke/MethodHandle" ∧ y.cls ≠ "java/lang/invoke/VarHandle") (hlen : ∀ sig, parseMethodDescriptor y.desc = some sig → n = sig.parameters.length)
    (hl : (Cond.methodLink own index y).before args s = true) (hstt : (Cond.static y).before args s = true) (hp : PreS s H Pc As)
    (hg : g.method = m) (hn : As.length = n) (hsize : g.locals.size = nL) (hstack : g.stack = As.reverse ++ rest) (hW : 2 * g.monitorRoom + (rest.map fun v => v.category).sum ≤ 8) (hdg : decode cc g.pc = .ok (.invokestatic index, 3)) (hf : cells + mc ≤ R.cells ∧ slots + ms ≤ R.slots) :
    va_Run p l e R s m args below meth c H locs cells slots mc ms g rest (Qc As.toArray) free := by
  have hK : Back l R p e below s args y 3 8 (PreOf R mc ms Pc) (PostOf Qc mc ms free) := va_backW hM hp.1 hrc hrs hfr hlo hws hcw (fun a' U hU => word_at hU (Or.inl (by first | rfl | simp [Cond.onTables, Cond.keeps, Cond.steady])) hini)
  intro T hT X
  obtain ⟨mk, methM, cM, hnamed, hmethM, -, -, -, -, -, -, hsigM⟩ := Cond.codeWith_spec (hws _ hcw args s (State.WarmedH.refl s))
  have hstatic : methM.isStatic = true := Cond.static_spec hnamed hmethM hstt
  obtain ⟨kP, hkP, -⟩ := className_of_methodNamed hnamed
  have hinitP : kP.init = .initialized := Cond.initialized_spec (findClass_of_methodNamed hnamed) hkP hini
  obtain ⟨vm₁, X₁, hstep₁⟩ := X.invokestatic hx hown hl hnamed hmethM hstatic hkP hinitP hy (g := g) hg (argsL := As) (rest := rest) (hn.trans (hlen _ hsigM)) hstack (by rw [hb]; exact hdg)
  obtain ⟨v, ⟨U', l2, c2, s2⟩, X', ⟨g', mk', t, L, e1, e2, hq, h1, hL, h2, h3⟩, hsteps⟩ := hK m meth c ⟨T.setVm vm₁, locs, cells, slots⟩ { g with stack := rest } (.invokestatic index) mk As.toArray X₁ hg (hsize.trans hml.symm) (by rw [hb]; exact hdg) hW (X₁.named hnamed) ⟨hf.1, hf.2, hp.2 (T.setVm vm₁) hT X₁.warmed⟩
  dsimp only [Pt.U, Pt.locs, Pt.cells, Pt.slots] at X' e1 e2 h1 h2 h3 hsteps
  subst h1; subst h2; subst h3
  exact ⟨v, (T.setVm vm₁).calling g' mk' As.toArray, t, U', L, hT, X', hL, e1, e2, hq, fun target h => hstep₁ _ fun acts => by rw [doInvoke_state]; exact hsteps.trans h⟩
end AMZ
