/-- the law's walk, out of the abstract machine's run -/
theorem cd_start (H : cd_claim) {p : Program} {e : Env} {s : State} {m : MethodId} {below : List Frame} {meth : Method} {c : Code} (l : Launch) (hfl : l.flags = pinnedFlags ++ [noTraceFlag]) {b L : Nat} {xs : Nat → Int32} (hL : L ≤ 1536) (hx : p.tables.exec = Jvm.exec) (hb : c.code = code) (hr : meth.sig.returnType = ret) (hml : c.maxLocals = 7) (hown : s.vm.findClass "ChainDeskLaw" = some m.cls)
    (hts : ∀ w ∈ lw_tbl, w.before #[Value.ref b] s = true) (hX : va_X b L xs s s.heap) (hbl : b < s.heap.size) (hlocks : meth.locks = false) (hgv : (Jvm.Cond.and given_1 narrow_1).before #[Value.ref b] s = true) (hmn : meth.name = "law") (htab : c.exceptionTable.isEmpty = true) {Q : State → Prop}
    (hend : ∀ (pc : Nat) (H1 : Heap) (ls : Array Slot), decode code pc = .ok (.ireturn, 1) → W p l e room_1 s m #[Value.ref b] below meth c H1 [] 601024 7293034 Q (F0 m pc ls [.int 1])) :
    W p l e room_1 s m #[Value.ref b] below meth c s.heap [] 0 0 Q (entryFrame m ([Value.ref b] : List Value).toArray 7) := by
  obtain ⟨ad, adK, adV, w, D, σ, hini, hGL, hdy⟩ := cd_begin hL hts hX hbl hgv
  obtain ⟨σ', top', sl', ⟨n, hrun⟩, ht, hsl⟩ := H b L xs ad adK adV w _ σ hini
  have hS := am_sound (cd_good (cd_cs ad adK w) s.heap.size) (cd_bok (cd_cs ad adK w) s.heap.size D l) hfl rfl n
  have hl := lv_entry [Value.ref b] (n := 7) (by show 1 ≤ 7; decide)
  rw [lg_entry_eq]
  refine hS 1312 0 0 _ [] σ s.heap.size 0 _ hrun p e room_1 s m #[Value.ref b] below meth c Q s.heap.size 0 ⟨hx, hb, hml, hown, (fun w hw => by cases hw), hGL, hmn, (by show 1312 ≤ 2048; decide), (by show 64 * 1312 ≤ 84000; decide), ?_, ?_, ?_, hlocks⟩ ?_ ?_ _ s.heap [] 0 0 ⟨am_ent_ls (by show 1 ≤ 7; decide) rfl hl, hdy, va_S.rf, Nat.zero_add _, Nat.zero_add _⟩
  · show top' ≤ 601024 + s.heap.size
    omega
  · show sl' ≤ 7293034 + 0
    omega
  · have h2 := Array.isEmpty_iff.mp htab
    rw [h2]
    rfl
  · intro pc' lv' st' i u v hI he
    obtain ⟨hdec, -, -, hro⟩ := (cd_good (cd_cs ad adK w) s.heap.size).2.2.2.1 0 pc' i u v hI s #[Value.ref b] meth hGL (fun w hw => by cases hw) hmn
    intro ls H1 locs cells slots h
    have hcells := h.2.2.2
    refine va_forget (fun q hq => h.2.2.1.2.2 q hq) (W.widen (k := 601024) (n := 7293034) ?_ ?_ ?_)
    · have h1 : cells + s.heap.size = top' := hcells.1
      omega
    · have h1 : slots + 0 = sl' := hcells.2
      omega
    · cases i with
      | ireturn =>
        dsimp only [am_end] at he
        split at he
        · split at he
          · cases he
            exact hend pc' H1 ls (am_dec1 hdec rfl)
          · cases he
        · cases he
      | areturn =>
        dsimp only [am_end] at he
        split at he
        · split at he <;> cases he
        · split at he <;> cases he
        · cases he
      | return_ =>
        dsimp only [am_end] at he
        split at he <;> cases he
      | _ => exact absurd (show (none : Option (Option Value ⊕ Nat)) = some (.inl (some (.int 1))) from he) (fun z => by cases z)
  · intro pc' lv' st' σ1 top1 sl1 i u v hI hk hd hs hres
    cases hres
