section AMN
variable {t : am_T} {cs : Nat → Value} {D : va_G} {cl : List vw_C} {b0 : Nat} {yn : Nat → MethodName} {bt : Nat → ByteArray} {rtt : Nat → Option FieldType} {ws : Nat → List Cond} {GL : State → Prop} {l : Launch}
theorem am_run_has {n d y pc : Nat} {lv : am_V} {st : List Value} {σ : am_H} {top sl : Nat} {res : am_R} (h : am_run t cs n d y pc lv st σ top sl = some res) : ∃ x, t.1 y pc = some x := by
  cases n with
  | zero => exact absurd (show (none : Option am_R) = some res from h) (fun z => by cases z)
  | succ n =>
    unfold am_run at h
    split at h
    · cases h
    · next hI => exact ⟨_, hI⟩
/-- a run from a method's start, in its frame -/
theorem am_body (hG : am_good t cs cl b0 yn bt rtt ws GL) {n : Nat} (hW : am_Wp t cs D cl b0 yn bt ws GL l n) {d y : Nat} (hy0 : y ≠ 0) {as : List Value} {σ : am_H} {top sl : Nat} {res : am_R} (h : am_run t cs n d y 0 (am_ent (t.2.1 y) as) [] σ top sl = some res) (has : as.length ≤ t.2.1 y) (hc1 : as.all am_c1 = true)
    {p : Program} {e : Env} {s : State} {m : MethodId} {args : Array Value} {below : List Frame} {meth : Method} {c : Code} {s₁ : State} (B : BodyLoose p l (yn y) (headSpec (ws y) { frames := d, cells := res.2.2.1 - top, slots := res.2.2.2 - sl, locals := 64 * d }) (bt y) (t.2.1 y) (rtt y) e s m args below meth c s₁) (hml : c.maxLocals = t.2.1 y) (hP : am_Pc D cl b0 GL as σ top args s) {Q : State → Prop}
    (hend : ∀ (pc' : Nat) (lv' : am_V) (st' : List Value) (i : Instr) (u v : Nat), t.1 y pc' = some (i, u, v) → am_end (t.2.2.1 y) st' i = some res.1 → am_cx t yn bt ws GL p { frames := d, cells := res.2.2.1 - top, slots := res.2.2.2 - sl, locals := 64 * d } s m args meth c y d res top sl → am_W p l e { frames := d, cells := res.2.2.1 - top, slots := res.2.2.2 - sl, locals := 64 * d } s m args below meth c Q D cl b0 (t.2.1 y) top sl pc' lv' st' res.2.1 res.2.2.1 res.2.2.2)
    (hthr : ∀ (pc' : Nat) (lv' : am_V) (st' : List Value) (σ' : am_H) (top' sl' : Nat) (i : Instr) (u v : Nat), t.1 y pc' = some (i, u, v) → am_kind i u = 3 → 6 ≤ d → (st'.map fun w => w.category).sum ≤ 8 → res = (.inr top', am_up σ' top' (.inr (.inl (u, []))), top' + 1, sl' + t.2.2.2.2.2.1 u) → am_cx t yn bt ws GL p { frames := d, cells := res.2.2.1 - top, slots := res.2.2.2 - sl, locals := 64 * d } s m args meth c y d res top sl → am_W p l e { frames := d, cells := res.2.2.1 - top, slots := res.2.2.2 - sl, locals := 64 * d } s m args below meth c Q D cl b0 (t.2.1 y) top sl pc' lv' st' σ' top' sl') :
    W p l e (headSpec (ws y) { frames := d, cells := res.2.2.1 - top, slots := res.2.2.2 - sl, locals := 64 * d }).room s m args below meth c s.heap [] 0 0 Q (entryFrame m args (t.2.1 y)) := by
  obtain ⟨x, hx0⟩ := am_run_has h
  obtain ⟨hlt, hws, hpl, hrt⟩ := hG.2.2.1 y 0 x hx0
  obtain ⟨ws', hws⟩ := hws hy0
  have hm := am_run_mono _ _ _ _ _ _ _ _ _ _ h
  obtain ⟨rfl, hdy, hgl⟩ := hP
  have hts := atoms_spec (ws := ws y) B.pre
  have hl := lv_entry as (n := t.2.1 y) (by rw [am_sl_len as hc1]; exact has)
  have hmn : meth.name = (yn y).name := (name_of_methodNamed B.named B.method).1
  have hmc : meth.code = some c := (Stand.of_body B).code
  have htab : c.exceptionTable.toList.map am_he = (am_hs t y).map Prod.fst := by
    have h0 : (am_hc t yn bt rtt y).before as.toArray s = true := hts _ (by rw [hws]; exact List.mem_cons_self)
    unfold am_hc at h0
    cases he : am_hs t y with
    | nil =>
      rw [he] at h0
      obtain ⟨meth', c', h1, h2, -, -, -, -, h7, -⟩ := Cond.code_spec B.named h0
      cases h1.symm.trans B.method
      cases h2.symm.trans hmc
      have := Array.isEmpty_iff.mp h7
      rw [this]
      rfl
    | cons a r =>
      rw [he] at h0
      obtain ⟨m', meth', c', hn', h1, h2, -, -, h5, -⟩ := Cond.codeWith_spec h0
      cases hn'.symm.trans B.named
      cases h1.symm.trans B.method
      cases h2.symm.trans hmc
      exact h5
  have hcx : am_cx t yn bt ws GL p { frames := d, cells := res.2.2.1 - top, slots := res.2.2.2 - sl, locals := 64 * d } s m as.toArray meth c y d res top sl := ⟨B.exec, B.bytes, hml, findClass_of_methodNamed B.named, hts, hgl, hmn, Nat.le_refl d, Nat.le_refl (64 * d), by show res.2.2.1 ≤ (res.2.2.1 - top) + top; omega, by show res.2.2.2 ≤ (res.2.2.2 - sl) + sl; omega, htab, B.notSynchronized⟩
  rw [lg_entry_eq]
  exact hW d y 0 _ [] σ top sl res h p e _ s m as.toArray below meth c _ top sl hcx (fun pc' lv' st' i u v a1 a2 => hend pc' lv' st' i u v a1 a2 hcx) (fun pc' lv' st' σ' top' sl' i u v a1 a2 a3 a4 a5 => hthr pc' lv' st' σ' top' sl' i u v a1 a2 a3 a4 a5 hcx) _ s.heap [] 0 0 ⟨am_ent_ls has hc1 hl, hdy, va_S.rf, Nat.zero_add _, Nat.zero_add _⟩
/-- a run from a method's start is its contract -/
theorem am_met (hG : am_good t cs cl b0 yn bt rtt ws GL) {n : Nat} (hW : am_Wp t cs D cl b0 yn bt ws GL l n) {d y : Nat} (hy0 : y ≠ 0) {as : List Value} {σ : am_H} {top sl : Nat} {res : am_R} {vr : Option Value} (h : am_run t cs n d y 0 (am_ent (t.2.1 y) as) [] σ top sl = some res) (hv : res.1 = .inl vr) (has : as.length ≤ t.2.1 y) (hc1 : as.all am_c1 = true) :
    Met l (yn y) (ws y) { frames := d, cells := res.2.2.1 - top, slots := res.2.2.2 - sl, locals := 64 * d } (am_Pc D cl b0 GL as σ top) (am_Qc D cl b0 res) (res.2.2.1 - top) (res.2.2.2 - sl) (fun q => b0 ≤ q) := by
  obtain ⟨x, hx0⟩ := am_run_has h
  obtain ⟨hlt, hws, hpl, hrt⟩ := hG.2.2.1 y 0 x hx0
  obtain ⟨ws', hws⟩ := hws hy0
  have key : ∀ p e s m args below meth c s₁, BodyLoose p l (yn y) (headSpec (ws y) { frames := d, cells := res.2.2.1 - top, slots := res.2.2.2 - sl, locals := 64 * d }) (bt y) (t.2.1 y) (rtt y) e s m args below meth c s₁ → c.maxLocals = t.2.1 y → am_Pc D cl b0 GL as σ top args s →
      W p l e (headSpec (ws y) { frames := d, cells := res.2.2.1 - top, slots := res.2.2.2 - sl, locals := 64 * d }).room s m args below meth c s.heap [] 0 0 (MQ below (am_Qc D cl b0 res) args s (res.2.2.1 - top) (res.2.2.2 - sl) (fun q => b0 ≤ q)) (entryFrame m args (t.2.1 y)) := by
    intro p e s m args below meth c s₁ B hml hP
    refine am_body hG hW hy0 h has hc1 B hml hP ?_ ?_
    · intro pc' lv' st' i u v hI he hcx
      obtain ⟨hx, hb, hml, hown, hts, hgl, hmn, hfr, hlo, hr1, hr2, htab, hlk⟩ := hcx
      obtain ⟨hdec, -, -, hro⟩ := hG.2.2.2.1 y pc' i u v hI s args meth hgl hts hmn
      exact am_w_ends B.exec B.bytes B.returns hrt hro B.notSynchronized hdec he hv
    · intro pc' lv' st' σ' top' sl' i u v hI hk hd hs hres hcx
      rw [hres] at hv
      cases hv
  cases he : am_hs t y with
  | nil =>
    unfold am_hc at hws
    rw [he] at hws
    exact Met.ofW (cc := bt y) (maxL := t.2.1 y) (ret := rtt y) hpl hws key
  | cons a r =>
    unfold am_hc at hws
    rw [he] at hws
    exact va_MetW (cc := bt y) (maxL := t.2.1 y) (ret := rtt y) hpl hws key
/-- a run that ends in an exception -/
theorem am_metT (hG : am_good t cs cl b0 yn bt rtt ws GL) (hfl : l.flags = pinnedFlags ++ [noTraceFlag]) {n : Nat} (hW : am_Wp t cs D cl b0 yn bt ws GL l n) {d y : Nat} (hy0 : y ≠ 0) (hh : am_hs t y = []) {as : List Value} {σ : am_H} {top sl : Nat} {res : am_R} {a : Nat} (h : am_run t cs n d y 0 (am_ent (t.2.1 y) as) [] σ top sl = some res) (hv : res.1 = .inr a) (has : as.length ≤ t.2.1 y) (hc1 : as.all am_c1 = true) :
    am_MT l (yn y) (ws y) { frames := d, cells := res.2.2.1 - top, slots := res.2.2.2 - sl, locals := 64 * d } (am_Pc D cl b0 GL as σ top) (am_QcT D cl b0 res) (res.2.2.1 - top) (res.2.2.2 - sl) (fun q => b0 ≤ q) := by
  obtain ⟨x, hx0⟩ := am_run_has h
  obtain ⟨hlt, hws, hpl, hrt⟩ := hG.2.2.1 y 0 x hx0
  obtain ⟨ws', hws⟩ := hws hy0
  unfold am_hc at hws
  rw [hh] at hws
  refine am_MT_ofW (cc := bt y) (maxL := t.2.1 y) (ret := rtt y) hpl hws ?_
  intro p e s m args below meth c s₁ B hml hP
  refine am_body hG hW hy0 h has hc1 B hml hP ?_ ?_
  · intro pc' lv' st' i u v hI he hcx
    obtain ⟨w, hw⟩ := am_end_inl he
    rw [hv] at hw
    cases hw
  · intro pc' lv' st' σ' top' sl' i u v hI hk hd hs hres hcx
    obtain ⟨hx, hb, hml, hown, hts, hgl, hmn, hfr, hlo, hr1, hr2, htab, hlk⟩ := hcx
    obtain ⟨idx, T0, rfl, -, h6, hcu, htf⟩ := hG.2.2.2.2.2.1 y pc' i u v hI hk
    rw [h6] at hres
    rw [hh] at htab
    refine am_w_throw (GL := GL) (cc := bt y) (own := (yn y).cls) (C := t.2.2.2.2.2.2.1 u) (T0 := T0) (u := u) (idx := idx) (ic := v) hx hb hml hfl hlk ?_ hown hG.2.1 hgl (fun s' hs' => htf s' args hs') hcu (by omega) (by omega) hs ?_ ?_ hres
    · rw [Array.isEmpty_iff]
      have h2 := List.map_eq_nil_iff.mp htab
      exact Array.toList_eq_nil_iff.mp h2
    · have e1 : res.2.2.1 = top' + 1 := by rw [hres]
      rw [← e1]
      exact hr1
    · have e1 : res.2.2.2 = sl' + 6 := by rw [hres]
      rw [← e1]
      exact hr2
set_option maxHeartbeats 4000000 in
theorem am_sound (hG : am_good t cs cl b0 yn bt rtt ws GL) (hB : am_bok t cs D cl b0 yn bt ws GL l) (hfl : l.flags = pinnedFlags ++ [noTraceFlag]) (hG50 : t.2.2.2.2.2.2.1 50 = "java/lang/String") : ∀ n : Nat, am_Wp t cs D cl b0 yn bt ws GL l n
  | 0 => by
    intro d y pc lv st σ top sl res h
    exact absurd (show (none : Option am_R) = some res from h) (fun z => by cases z)
  | n + 1 => by
    have ih := am_sound hG hB hfl hG50 n
    intro d y pc lv st σ top sl res h p e R s m args below meth c Q c0 s0 hcx hend hthr
    have hcx' := hcx
    obtain ⟨hx, hb, hml, hown, hts, hgl, hmn, hfr, hlo, hr1, hr2, htab, hlocks⟩ := hcx'
    unfold am_run at h
    split at h
    · cases h
    · next i u v hI =>
      obtain ⟨hdec, hfact, hcf, hro⟩ := hG.2.2.2.1 y pc i u v hI s args meth hgl hts hmn
      split at h
      · split at h
        · cases h
        · next pc' lv' st' σ' top' sl' hs =>
          have hm := am_run_mono _ _ _ _ _ _ _ _ _ _ h
          exact am_step_W hx hb hml hown hG.1 hfr hlo hdec hfact hs (Nat.le_trans hm.1 hr1) (Nat.le_trans hm.2 hr2) (ih _ _ _ _ _ _ _ _ _ h p e R s m args below meth c Q c0 s0 hcx hend hthr)
      · next hk1 =>
        split at h
        · cases h
        · next as rest hcall =>
          obtain ⟨hd0, hst, hkind⟩ := am_call_inv hcall
          subst hst
          split at h
          · next hsum =>
            split at h
            · next hu =>
              split at h
              · cases h
              · next r σ1 hbi =>
                have hm := am_run_mono _ _ _ _ _ _ _ _ _ _ h
                exact hB d y pc lv σ σ1 top sl res i u v as rest r hI hu hd0 hcall hbi hsum p e R s m args below meth c Q c0 s0 hcx hm.1 hm.2 (ih _ _ _ _ _ _ _ _ _ h p e R s m args below meth c Q c0 s0 hcx hend hthr)
            · next hu =>
              split at h
              · next hlc =>
                split at h
                · cases h
                · next r σ1 top1 sl1 hrun =>
                  have hm := am_run_mono _ _ _ _ _ _ _ _ _ _ h
                  have hm1 := am_run_mono _ _ _ _ _ _ _ _ _ _ hrun
                  dsimp only at hm1
                  obtain ⟨x, hx0⟩ := am_run_has hrun
                  obtain ⟨hlt, hws, -, -⟩ := hG.2.2.1 u 0 x hx0
                  have hu0 : u ≠ 0 := hG.2.2.2.2.1 y pc i u v hI hk1
                  obtain ⟨ws', hws⟩ := hws hu0
                  have hM := am_met hG ih hu0 hrun rfl hlc.1 hlc.2
                  dsimp only at hM
                  have hk := ih _ _ _ _ _ _ _ _ _ h p e R s m args below meth c Q c0 s0 hcx hend hthr
                  refine am_w_run (res := (.inl r, σ1, top1, sl1)) (mc := top1 - top) (ms := sl1 - sl) (ar := as.toArray) rfl (by dsimp only; omega) (by dsimp only; omega) ?_ hk
                  intro ls H locs cells slots hinv
                  obtain ⟨hc, hs⟩ := hinv.2.2.2
                  have hS := hinv.2.2.1
                  have hpre : ∀ U : State, U.heap = H → s.WarmedH U.vm → am_Pc D cl b0 GL as σ top as.toArray U := fun U hU hW =>
                    ⟨rfl, by rw [hU]; exact hinv.2.1.moved hW.alike, hG.2.1 s U hW (by rw [hU]; exact hS.1) (fun q h1 h2 => by rw [hU]; exact hS.2.1 q h1 h2) hgl⟩
                  have hf : cells + (top1 - top) ≤ R.cells ∧ slots + (sl1 - sl) ≤ R.slots := by
                    constructor <;> omega
                  have hfr1 : d - 1 + 1 ≤ R.frames := by omega
                  have hlo1 : 64 * (d - 1 + 1) ≤ R.locals := by omega
                  have hmon : 2 * (F0 m pc ls (as.reverse ++ rest)).monitorRoom + (rest.map fun v => v.category).sum ≤ 8 := by
                    show 2 * 0 + _ ≤ 8
                    omega
                  rcases hkind with ⟨idx, rfl, hal⟩ | ⟨idx, b, as', rfl, rfl, hal⟩ | ⟨idx, b, as', rfl, rfl, hal, hbc⟩
                  · obtain ⟨hcc, hlk, hstc, -, hsw⟩ := hcf hlt
                    rcases List.eq_nil_or_concat (am_hs t u) with hnil | hcons
                    case inr =>
                      have hne : am_hs t u ≠ [] := by
                        obtain ⟨L, b, e⟩ := hcons
                        rw [e]
                        simp
                      obtain ⟨h1, h2, h3, h4, h5⟩ := hcc
                      have hl := hsw.resolve_left hne
                      have hwc : Cond.codeWith (yn u) (bt u) (t.2.1 u) (rtt u) ((am_hs t u).map Prod.fst) ∈ ws u := by
                        rw [hws]
                        unfold am_hc
                        cases he : am_hs t u with
                        | nil => exact absurd he hne
                        | cons a r => exact List.mem_cons_self
                      exact am_runSW (nL := t.2.1 y) (cc := bt y) hx hb hml hown hM rfl rfl hfr1 (by show 8 + (t.2.1 u + 11) + 64 * (d - 1) ≤ _; omega) h1 hwc h2 h3 (fun sig hs => by rw [hs] at h4; exact (Option.some.inj h4).symm) hl hstc ⟨am_blind hG.2.1 as σ top, hpre⟩ rfl hal hinv.1.1.1 rfl hmon (am_dec1 hdec rfl) hf
                    unfold am_hc at hws
                    rw [hnil] at hws
                    rcases hlk with hl | ⟨host, hl⟩
                    · exact va_runS ⟨hx, hb, hml, hown, hts⟩ hM ⟨am_callB hws hcc hfr1 hlo1 hl, hstc⟩ ⟨am_blind hG.2.1 as σ top, hpre⟩ rfl hal hinv.1.1.1 rfl hmon (am_dec1 hdec rfl) hf
                    · exact va_runSN ⟨hx, hb, hml, hown, hts⟩ hM ⟨am_callN hws hcc hfr1 hlo1 hl, hstc, trivial⟩ ⟨am_blind hG.2.1 as σ top, hpre⟩ rfl hal hinv.1.1.1 rfl hmon (am_dec1 hdec rfl) hf
                  · obtain ⟨hcc, hlk, hin, hnm, hrn, hnil, -⟩ := hcf hlt
                    unfold am_hc at hws
                    rw [hnil] at hws
                    rw [List.reverse_cons, List.append_assoc] at hmon ⊢
                    rcases hlk with hl | ⟨host, hl⟩
                    · have hcb := am_callB (mc := top1 - top) (ms := sl1 - sl) hws hcc hfr1 hlo1 hl
                      rw [hrn] at hcb
                      exact va_runI (As := as') ⟨hx, hb, hml, hown, hts⟩ hM ⟨hcb, hnm, hin⟩ ⟨am_blind hG.2.1 _ σ top, hpre⟩ rfl hal hinv.1.1.1 rfl hmon (am_dec1 hdec rfl) hf
                    · have hcb := am_callN (mc := top1 - top) (ms := sl1 - sl) hws hcc hfr1 hlo1 hl
                      rw [hrn] at hcb
                      exact va_runIN (As := as') ⟨hx, hb, hml, hown, hts⟩ hM ⟨hcb, hnm, hin⟩ ⟨am_blind hG.2.1 _ σ top, hpre⟩ rfl hal hinv.1.1.1 rfl hmon (am_dec1 hdec rfl) hf
                  · obtain ⟨hcc, hlk, hin, hsel, hcls, hnil, -⟩ := hcf hlt
                    unfold am_hc at hws
                    rw [hnil] at hws
                    rw [List.reverse_cons, List.append_assoc] at hmon ⊢
                    have hrec : ∃ cellB : Cell, H[b]? = some cellB ∧ cellB.vm.isStatics = false ∧ s.vm.findClass (yn u).cls = some cellB.cls := by
                      rcases hbc with ⟨fs, hb1⟩ | ⟨⟨av, f1, hb1⟩, h50⟩
                      · obtain ⟨hsz, hbt, tys, hK, hcl⟩ := hinv.2.1
                        obtain ⟨-, -, r1, hr9, -, cell, q1, q2, q3, -⟩ := hcl b _ hb1
                        refine ⟨cell, q1, by rw [q3]; rfl, ?_⟩
                        have := (hK.1 _ r1 hr9).2.1
                        rw [hG.1 _ r1 hr9, hcls] at this
                        rw [q2]
                        exact this
                      · obtain ⟨hsz, hbt, tys, hK, hcl⟩ := hinv.2.1
                        obtain ⟨-, -, ⟨cell, q1, q2, q3, -⟩, -⟩ := hcl b _ hb1
                        refine ⟨cell, q1, q2, ?_⟩
                        rw [← hcls, h50, hG50]
                        exact q3
                    rcases hlk with hl | ⟨host, hl⟩
                    · exact va_runV (As := as') ⟨hx, hb, hml, hown, hts⟩ hM ⟨am_callB hws hcc hfr1 hlo1 hl, hin, hsel⟩ ⟨am_blind hG.2.1 _ σ top, hrec, hpre⟩ rfl hal hinv.1.1.1 rfl hmon (am_dec1 hdec rfl) hf
                    · exact va_runVN (As := as') ⟨hx, hb, hml, hown, hts⟩ hM ⟨am_callN hws hcc hfr1 hlo1 hl, hin, hsel⟩ ⟨am_blind hG.2.1 _ σ top, hrec, hpre⟩ rfl hal hinv.1.1.1 rfl hmon (am_dec1 hdec rfl) hf
                · next a σ1 top1 sl1 hrun =>
                  split at h
                  · next hp hhd =>
                    have hm := am_run_mono _ _ _ _ _ _ _ _ _ _ h
                    have hm1 := am_run_mono _ _ _ _ _ _ _ _ _ _ hrun
                    dsimp only at hm1
                    obtain ⟨x, hx0⟩ := am_run_has hrun
                    obtain ⟨hlt, hws, -, -⟩ := hG.2.2.1 u 0 x hx0
                    have hu0 : u ≠ 0 := hG.2.2.2.2.1 y pc i u v hI hk1
                    obtain ⟨ws', hws⟩ := hws hu0
                    unfold am_hd at hhd
                    split at hhd
                    · next cx fs hnil hσ =>
                      split at hhd
                      · next h12 =>
                        unfold am_hc at hws
                        rw [hnil] at hws
                        have hne : am_hs t y ≠ [] := by
                          intro hn0
                          rw [hn0] at hhd
                          cases hhd
                        have hM := am_metT hG hfl ih hu0 hnil hrun rfl hlc.1 hlc.2
                        dsimp only at hM
                        have hk := ih _ _ _ _ _ _ _ _ _ h p e R s m args below meth c Q c0 s0 hcx hend hthr
                        have hfr1 : d - 1 + 1 ≤ R.frames := by omega
                        have hlo1 : 64 * (d - 1 + 1) ≤ R.locals := by omega
                        rcases hkind with ⟨idx, rfl, hal⟩ | ⟨idx, b, as', rfl, rfl, hal⟩ | ⟨idx, b, as', rfl, rfl, hal, hbc⟩
                        · obtain ⟨-, -, -, h9, -⟩ := hcf hlt
                          exact absurd h9 hne
                        · obtain ⟨-, -, -, -, -, -, h9⟩ := hcf hlt
                          exact absurd h9 hne
                        · obtain ⟨hcc, hlk, hin, hsel, hcls, -, h9⟩ := hcf hlt
                          have hl := h9.resolve_left hne
                          rw [List.reverse_cons, List.append_assoc]
                          refine am_w_catch (cc := bt y) (own := (yn y).cls) (C := (yn u).cls) (b := b) (As := as') (rest := rest) (nm := t.2.2.2.2.2.2.1) (res := (.inr a, σ1, top1, sl1)) (mc := top1 - top) (ms := sl1 - sl) (fs := fs) hx hb hml hown htab rfl (by dsimp only; omega) (by dsimp only; omega) hG.1 hM ⟨am_callB hws hcc hfr1 hlo1 hl, hin, hsel⟩ ?_ hal rfl hsum (am_dec1 hdec rfl) hσ ?_ hhd hk
                          · intro ls H locs cells slots hinv
                            obtain ⟨hc, hs⟩ := hinv.2.2.2
                            have hS := hinv.2.2.1
                            have hpre : ∀ U : State, U.heap = H → s.WarmedH U.vm → am_Pc D cl b0 GL (.ref b :: as') σ top (Value.ref b :: as').toArray U := fun U hU hW =>
                              ⟨rfl, by rw [hU]; exact hinv.2.1.moved hW.alike, hG.2.1 s U hW (by rw [hU]; exact hS.1) (fun q h1 h2 => by rw [hU]; exact hS.2.1 q h1 h2) hgl⟩
                            have hrec : ∃ cellB : Cell, H[b]? = some cellB ∧ cellB.vm.isStatics = false ∧ s.vm.findClass (yn u).cls = some cellB.cls := by
                              rcases hbc with ⟨fs, hb1⟩ | ⟨⟨av, f1, hb1⟩, h50⟩
                              · obtain ⟨hsz, hbt, tys, hK, hcl⟩ := hinv.2.1
                                obtain ⟨-, -, r1, hr9, -, cell, q1, q2, q3, -⟩ := hcl b _ hb1
                                refine ⟨cell, q1, by rw [q3]; rfl, ?_⟩
                                have := (hK.1 _ r1 hr9).2.1
                                rw [hG.1 _ r1 hr9, hcls] at this
                                rw [q2]
                                exact this
                              · obtain ⟨hsz, hbt, tys, hK, hcl⟩ := hinv.2.1
                                obtain ⟨-, -, ⟨cell, q1, q2, q3, -⟩, -⟩ := hcl b _ hb1
                                refine ⟨cell, q1, q2, ?_⟩
                                rw [← hcls, h50, hG50]
                                exact q3
                            exact ⟨⟨am_blind hG.2.1 _ σ top, hrec, hpre⟩, by omega, by omega⟩
                          · intro h' hh'
                            obtain ⟨g1, g2, g3⟩ := hG.2.2.2.2.2.2 y h' hh'
                            obtain ⟨g4, g5⟩ := g3 s args hgl
                            exact ⟨g1, g4, g2, fun r hr => g5 cx r h12 hr⟩
                      · cases hhd
                    · cases hhd
                  · cases h
              · cases h
          · cases h
      · next hk3 =>
        split at h
        · next hd6 =>
          cases h
          exact hthr pc lv st σ top sl i u v hI hk3 hd6.1 hd6.2 rfl
        · cases h
      · split at h
        · cases h
        · next r he =>
          cases h
          exact hend pc lv st i u v hI he
end AMN
