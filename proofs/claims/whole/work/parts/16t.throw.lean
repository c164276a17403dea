/-- the same place of a walk, seen as if the method had been entered with the heap as it is now -/
theorem am_rebase {p : Program} {l : Launch} {e : Env} {R : Room} {s : State} {m : MethodId} {args : Array Value} {below : List Frame} {meth : Method} {c : Code} {T : State} {locs : List Loc} {cells slots : Nat} (X : Stand p l e R s m args below meth c T locs cells slots) (hc : cells ≤ R.cells) (hs : slots ≤ R.slots) :
    Stand p l e { frames := R.frames, cells := R.cells - cells, slots := R.slots - slots, locals := R.locals } (T.setFrames (.invoking m args :: below)) m args below meth c T [] 0 0 := by
  have hcurT : T.cur < T.threads.size := by
    obtain ⟨g₀, hr⟩ := X.frames_eq
    obtain ⟨th, hth, -⟩ := State.frames_cons hr
    exact (Array.getElem?_eq_some_iff.mp hth).1
  have hfr : (T.setFrames (.invoking m args :: below)).frames = .invoking m args :: below := State.frames_setFrames _ hcurT
  obtain ⟨g₀, hr⟩ := X.frames_eq
  obtain ⟨th, hth, -⟩ := State.frames_cons hr
  have hmeth : T.vm.method? m = some meth := X.method'
  have hroom := X.room
  have hb := X.bytes
  have hl := X.limits
  have hsz := X.heapSize
  have hus := X.used
  have hbk := X.book
  refine ⟨X.admits, X.cas, X.clock, hfr, ?_, ?_, hmeth, X.code, X.here, X.tail, State.WarmedH.refl _, by rw [State.stackLimits_setFrames], by rw [State.stackBytes_setFrames], ?_⟩
  · have e1 : s.localsInUse = _ := State.localsInUse_invoking X.frames X.method X.code
    have e2 : (T.setFrames (.invoking m args :: below)).localsInUse = _ := State.localsInUse_invoking hfr hmeth X.code
    simp only [State.hasRoom, Bool.and_eq_true, decide_eq_true_eq] at hroom ⊢
    rw [e1, X.frames] at hroom
    rw [e2, hfr, State.stackLimits_setFrames, State.stackBytes_setFrames, hb, hl]
    refine ⟨⟨⟨⟨hroom.1.1.1.1, hroom.1.1.1.2⟩, ?_⟩, ?_⟩, hbk⟩
    · show T.heap.size + (R.cells - cells) ≤ _
      have := hroom.1.1.2
      omega
    · show T.slotsUsed + (R.slots - slots) ≤ _
      have := hroom.1.2
      omega
  · have hh := X.hears
    cases below with
    | nil =>
      simp only [State.hears, X.method] at hh
      simp only [State.hears]
      rw [show (T.setFrames (.invoking m args :: [])).vm.method? m = some meth from hmeth]
      exact hh
    | cons f r =>
      cases f with
      | java g =>
        simp only [State.hears] at hh ⊢
        rw [State.code?_eq] at hh ⊢
        cases hmg : s.vm.method? g.method with
        | none => rw [hmg] at hh; cases hh
        | some mg =>
          rw [hmg] at hh
          rw [show (T.setFrames (.invoking m args :: .java g :: r)).vm.method? g.method = some mg from X.warmed.methodAt hmg]
          exact hh
      | native _ => rfl
      | proc _ => rfl
      | _ =>
        simp only [State.hears, X.method] at hh
        simp only [State.hears]
        first
          | (rw [show (T.setFrames _).vm.method? m = some meth from hmeth]; exact hh)
          | (simp only [hmeth]; exact hh)
  · have h := (State.sameButNew.refl T hth)
    have h2 : (T.setFrames (.invoking m args :: below)).threads[(T.setFrames (.invoking m args :: below)).cur]? = _ := (State.frames_cons hfr).choose_spec.1
    have h3 := (State.sameButNew.refl (T.setFrames (.invoking m args :: below)) h2).setFrames T.frames (State.cur_lt_of_frames hfr)
    rw [State.setFrames_setFrames, State.setFrames_self hth] at h3
    exact h3
