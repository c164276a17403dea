def am_QcT (D : va_G) (cl : List vw_C) (b0 : Nat) (res : am_R) : Array Value → State → Outcome → State → Prop := fun _ st oc t => (∃ a, res.1 = .inr a ∧ oc = .threw a) ∧ am_dy D cl b0 t res.2.1 res.2.2.1 t.heap ∧ va_F (fun q => b0 ≤ q) st t
/-- the end of a method that throws -/
def am_MQT (below : List Frame) (Qc : Array Value → State → Outcome → State → Prop) (a : Array Value) (s : State) (mc ms : Nat) (free : Addr → Prop) : State → Prop := fun t =>
  ∃ o, t.status = .running ∧ Ended t below o ∧ Qc a s o t ∧ (∃ x, o = .threw x) ∧ s.WarmedH t.vm ∧ ∃ L, s.sameButNew ({ t with vm := s.vm } : State) L mc ms ∧ ∀ q ∈ L, free q.base
def am_sup : List String := ["java/lang/RuntimeException", "java/lang/Exception"]
/-- what the tables say where an exception is made and thrown -/
def am_tf (s : State) (args : Array Value) (cc : ByteArray) (own C : String) (pc idx ic : Nat) : Prop :=
  decode cc pc = .ok (.new idx, 3) ∧ decode cc (pc + 3) = .ok (.dup, 1) ∧ decode cc (pc + 4) = .ok (.invokespecial ic, 3) ∧ decode cc (pc + 7) = .ok (.athrow, 1) ∧ (Cond.classLink own idx C).before args s = true ∧ (Cond.initialized C).before args s = true ∧
  Bundle.fit C = true ∧ (∀ w ∈ Bundle.ownAtoms0 own ic C am_sup, w.before args s = true)
theorem am_w_throw {p : Program} {l : Launch} {e : Env} {R : Room} {s : State} {m : MethodId} {args : Array Value} {below : List Frame} {meth : Method} {c : Code} {cc : ByteArray} {D : va_G} {cl : List vw_C} {b0 nL c0 s0 pc top sl : Nat} {lv : am_V} {st : List Value} {σ : am_H} {GL : State → Prop} {own C : String} {T0 : u_T} {u idx ic : Nat} {res : am_R}
    (hx : p.tables.exec = Jvm.exec) (hb : c.code = cc) (hml : c.maxLocals = nL) (hfl : l.flags = pinnedFlags ++ [noTraceFlag]) (hlocks : meth.locks = false) (hmt : c.exceptionTable.isEmpty = true) (hown : s.vm.findClass own = some m.cls) (hmv : am_mv b0 GL) (hgl : GL s) (htf : ∀ s' : State, GL s' → am_tf s' args cc own C pc idx ic)
    (hc : cl[u]? = some (C, T0, 0)) (hfr : 6 ≤ R.frames) (hlo : 200 ≤ R.locals) (hw : (st.map fun w => w.category).sum ≤ 8) (hr1 : top + 1 ≤ R.cells + c0) (hr2 : sl + 6 ≤ R.slots + s0) (hres : res = (.inr top, am_up σ top (.inr (.inl (u, []))), top + 1, sl + 6)) :
    am_W p l e R s m args below meth c (am_MQT below (am_QcT D cl b0 res) args s (res.2.2.1 - c0) (res.2.2.2 - s0) (fun q => b0 ≤ q)) D cl b0 nL c0 s0 pc lv st σ top sl := by
  intro ls H locs cells slots h T hT X
  obtain ⟨hcc, hss⟩ := h.2.2.2
  have X0 := am_rebase X (by omega) (by omega)
  have hS := h.2.2.1
  generalize hs' : T.setFrames (.invoking m args :: below) = s' at X0
  have hh : s'.heap = H := by rw [← hs']; exact hT
  have hvm : s'.vm = T.vm := by rw [← hs']; rfl
  have hW' : s.WarmedH s'.vm := by rw [hvm]; exact X.warmed
  have hgl' : GL s' := hmv s s' hW' (by rw [hh]; exact hS.1) (fun q h1 h2 => by rw [hh]; exact hS.2.1 q h1 h2) hgl
  obtain ⟨d0, d3, d4, d7, hcl, hini, hfit, hat⟩ := htf s' hgl'
  have hins : (Cond.instantiable C 6).before args s' = true := hat _ (by simp [Bundle.ownAtoms0])
  have hown' : s'.vm.findClass own = some m.cls := by rw [hW'.alike.findClass]; exact hown
  obtain ⟨hsz, hbt, tys, hK, hcells⟩ := h.2.1
  have hfc : s'.vm.findClass C = some (D.1 u) := by rw [hW'.alike.findClass]; exact (hK.1 u _ hc).2.1
  have hsame1 : s.sameButNew (s'.setVm s.vm) locs cells slots := by
    have h1 := X.same.setFrames (.invoking m args :: below) X.cur
    rw [← hs']
    exact h1
  have key : W p l e { frames := R.frames, cells := R.cells - cells, slots := R.slots - slots, locals := R.locals } s' m args below meth c H [] 0 0 (am_MQT below (am_QcT D cl b0 res) args s (res.2.2.1 - c0) (res.2.2.2 - s0) (fun q => b0 ≤ q)) (F0 m pc ls st) := by
    refine W.newcK hx hb hown' hcl hins hini rfl d0 (by show 0 + 1 ≤ R.cells - cells; omega) (by show 0 + 6 ≤ R.slots - slots; omega) hfc hsz fun H1 kC hkC e1 z1 o1 => ?_
    refine lv_dup hx hb d3 rfl ?_
    intro T2 hT2 X2
    obtain ⟨U, st1, hrun, hend, hWU, hsame, ce, hce, hoc⟩ := X2.ctorThrow0 hx (Launch.traces_off hfl X.admits) hown' hfit (names := am_sup) (by decide +kernel) hat (fun x hx => by cases hx) hfc hkC (by rw [hT2]; exact e1) (by rw [hh, hsz]; exact Nat.le_refl _)
      (g := F0 m (pc + 3 + 1) ls (.ref top :: .ref top :: st)) rfl (by rw [hml]; exact h.1.1.1) rfl rfl (rest := st) rfl (by rw [hb]; exact d4) (by rw [hb]; exact d7) (fun x hx => by
        have : c.exceptionTable.toList = [] := by
          have := Array.isEmpty_iff.mp hmt
          rw [this]
        rw [this] at hx
        cases hx) (by show 2 + 3 < R.frames; omega) (by
        show 2 * 0 + ((Value.ref top :: st).map fun v => v.category).sum + (13 * (2 + 1) + 41) ≤ R.locals
        rw [List.map_cons, List.sum_cons]
        show 2 * 0 + (1 + _) + _ ≤ _
        omega) hlocks
    have hlt : top < U.heap.size := (Array.getElem?_eq_some_iff.mp hce).1
    have hle : U.heap.size ≤ s'.heap.size + (0 + 1) := hsame.2.2.1
    rw [hh, hsz] at hle
    have hsize : U.heap.size = top + 1 := by omega
    have oq : ∀ q : Nat, q < top → U.heap[q]? = H[q]? := by
      intro q hq
      have hq2 : q < H.size := by rw [hsz]; exact hq
      have h3 : H[q]? = some H[q] := Array.getElem?_eq_getElem hq2
      have h4 : s'.heap[q]? = some H[q] := by rw [hh]; exact h3
      rw [h3]
      exact State.sameButNew.old_cell hsame h4
    have hWs : s.WarmedH U.vm := State.WarmedH.trans hW' hWU
    obtain ⟨a1, a2, tys', a3, a4⟩ := h.2.1.moved (U := U) hWs.alike
    refine ⟨U, st1, .threw top, hrun, hend, ⟨⟨top, by rw [hres], rfl⟩, ?_, ?_, ?_⟩, ⟨top, rfl⟩, hWs, locs ++ [], ?_, ?_⟩
    · rw [hres]
      refine am_dy_push a1 a2 a3 (fun _ z => z) a4 hsize oq ⟨hbt, (C, T0, 0), hc, rfl, ce, hce, ?_, hoc.vm, fun k hk => absurd hk (Nat.not_lt_zero k)⟩
      exact Option.some.inj (hoc.cls.symm.trans hfc)
    · rw [hsize]
      have := hS.1
      omega
    · intro q h1 h2
      have h3 : q < top := by rw [← hsz]; exact Nat.lt_of_lt_of_le h1 hS.1
      rw [oq q h3]
      exact hS.2.1 q h1 h2
    · have h5 := hsame1.trans (hsame.setVm s.vm)
      rw [hres]
      rw [show top + 1 - c0 = cells + (0 + 1) by omega, show sl + 6 - s0 = slots + (0 + 6) by omega]
      exact h5
    · intro q hq
      rw [List.append_nil] at hq
      exact hS.2.2 q hq
  exact key T hT X0
