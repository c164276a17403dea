section AMN
variable {t : am_T} {cs : Nat → Value} {D : va_G} {cl : List vw_C} {b0 : Nat} {yn : Nat → MethodName} {bt : Nat → ByteArray} {rtt : Nat → Option FieldType} {ws : Nat → List Cond} {GL : State → Prop} {l : Launch}
theorem am_run_has {n d y pc : Nat} {lv : am_V} {st : List Value} {σ : am_H} {top sl : Nat} {res : am_R} (h : am_run t cs n d y pc lv st σ top sl = some res) : ∃ x, t.1 y pc = some x := by
  cases n with
  | zero => exact absurd (show (none : Option am_R) = some res from h) (fun z => by cases z)
  | succ n =>
    unfold am_run at h
    split at h
    · cases h
    · next hI => exact ⟨_, hI⟩
/-- a run from a method's start is its contract -/
theorem am_met (hG : am_good t cs cl b0 yn bt rtt ws GL) {n : Nat} (hW : am_Wp t cs D cl b0 yn bt ws GL l n) {d y : Nat} (hy0 : y ≠ 0) {as : List Value} {σ : am_H} {top sl : Nat} {res : am_R} {vr : Option Value} (h : am_run t cs n d y 0 (am_ent (t.2.1 y) as) [] σ top sl = some res) (hv : res.1 = .inl vr) (has : as.length ≤ t.2.1 y) (hc1 : as.all am_c1 = true) :
    Met l (yn y) (ws y) { frames := d, cells := res.2.2.1 - top, slots := res.2.2.2 - sl, locals := 64 * d } (am_Pc D cl b0 GL as σ top) (am_Qc D cl b0 res) (res.2.2.1 - top) (res.2.2.2 - sl) (fun q => b0 ≤ q) := by
  obtain ⟨x, hx0⟩ := am_run_has h
  obtain ⟨hlt, hws, hpl, hrt⟩ := hG.2.2.1 y 0 x hx0
  obtain ⟨ws', hws⟩ := hws hy0
  have hm := am_run_mono _ _ _ _ _ _ _ _ _ _ h
  refine Met.ofW (cc := bt y) (maxL := t.2.1 y) (ret := rtt y) hpl hws ?_
  intro p e s m args below meth c s₁ B hml hP
  obtain ⟨rfl, hdy, hgl⟩ := hP
  have hts := atoms_spec (ws := ws y) B.pre
  have hl := lv_entry as (n := t.2.1 y) (by rw [am_sl_len as hc1]; exact has)
  rw [lg_entry_eq]
  have hmn : meth.name = (yn y).name := (name_of_methodNamed B.named B.method).1
  refine hW d y 0 _ [] σ top sl res h p e _ s m as.toArray below meth c _ top sl ⟨B.exec, B.bytes, hml, findClass_of_methodNamed B.named, hts, hgl, hmn, Nat.le_refl d, Nat.le_refl (64 * d), ?_, ?_⟩ ?_ _ s.heap [] 0 0 ⟨am_ent_ls has hc1 hl, hdy, va_S.rf, Nat.zero_add _, Nat.zero_add _⟩
  · show res.2.2.1 ≤ (res.2.2.1 - top) + top
    omega
  · show res.2.2.2 ≤ (res.2.2.2 - sl) + sl
    omega
  · intro pc' lv' st' i u v hI he
    obtain ⟨hdec, -, -, hro⟩ := hG.2.2.2.1 y pc' i u v hI s as.toArray meth hgl hts hmn
    exact am_w_ends B.exec B.bytes B.returns hrt hro B.notSynchronized hdec he hv
set_option maxHeartbeats 4000000 in
theorem am_sound (hG : am_good t cs cl b0 yn bt rtt ws GL) (hB : am_bok t cs D cl b0 yn bt ws GL l) (hN : ∀ y pc k, t.2.2.2.2.2.2.2.2 y pc k = none) (hG50 : t.2.2.2.2.2.2.1 50 = "java/lang/String") : ∀ n : Nat, am_Wp t cs D cl b0 yn bt ws GL l n
  | 0 => by
    intro d y pc lv st σ top sl res h
    exact absurd (show (none : Option am_R) = some res from h) (fun z => by cases z)
  | n + 1 => by
    have ih := am_sound hG hB hN hG50 n
    intro d y pc lv st σ top sl res h p e R s m args below meth c Q c0 s0 hcx hend
    have hcx' := hcx
    obtain ⟨hx, hb, hml, hown, hts, hgl, hmn, hfr, hlo, hr1, hr2⟩ := hcx'
    unfold am_run at h
    split at h
    · cases h
    · next i u v hI =>
      obtain ⟨hdec, hfact, hcf, hro⟩ := hG.2.2.2.1 y pc i u v hI s args meth hgl hts hmn
      split at h
      · split at h
        · cases h
        · next pc' lv' st' σ' top' sl' hs =>
          have hm := am_run_mono _ _ _ _ _ _ _ _ _ _ h
          exact am_step_W hx hb hml hown hG.1 hfr hlo hdec hfact hs (Nat.le_trans hm.1 hr1) (Nat.le_trans hm.2 hr2) (ih _ _ _ _ _ _ _ _ _ h p e R s m args below meth c Q c0 s0 hcx hend)
      · next hk1 =>
        split at h
        · cases h
        · next as rest hcall =>
          obtain ⟨hd0, hst, hkind⟩ := am_call_inv hcall
          subst hst
          split at h
          · next hsum =>
            split at h
            · next hu =>
              split at h
              · cases h
              · next r σ1 hbi =>
                have hm := am_run_mono _ _ _ _ _ _ _ _ _ _ h
                exact hB d y pc lv σ σ1 top sl res i u v as rest r hI hu hd0 hcall hbi hsum p e R s m args below meth c Q c0 s0 hcx hm.1 hm.2 (ih _ _ _ _ _ _ _ _ _ h p e R s m args below meth c Q c0 s0 hcx hend)
            · next hu =>
              split at h
              · next hlc =>
                split at h
                · cases h
                · next r σ1 top1 sl1 hrun =>
                  have hm := am_run_mono _ _ _ _ _ _ _ _ _ _ h
                  have hm1 := am_run_mono _ _ _ _ _ _ _ _ _ _ hrun
                  dsimp only at hm1
                  obtain ⟨x, hx0⟩ := am_run_has hrun
                  obtain ⟨hlt, hws, -, -⟩ := hG.2.2.1 u 0 x hx0
                  have hu0 : u ≠ 0 := hG.2.2.2.2 y pc i u v hI hk1
                  obtain ⟨ws', hws⟩ := hws hu0
                  have hM := am_met hG ih hu0 hrun rfl hlc.1 hlc.2
                  dsimp only at hM
                  have hk := ih _ _ _ _ _ _ _ _ _ h p e R s m args below meth c Q c0 s0 hcx hend
                  refine am_w_run (res := (.inl r, σ1, top1, sl1)) (mc := top1 - top) (ms := sl1 - sl) (ar := as.toArray) rfl (by dsimp only; omega) (by dsimp only; omega) ?_ hk
                  intro ls H locs cells slots hinv
                  obtain ⟨hc, hs⟩ := hinv.2.2.2
                  have hS := hinv.2.2.1
                  have hpre : ∀ U : State, U.heap = H → s.WarmedH U.vm → am_Pc D cl b0 GL as σ top as.toArray U := fun U hU hW =>
                    ⟨rfl, by rw [hU]; exact hinv.2.1.moved hW.alike, hG.2.1 s U hW (by rw [hU]; exact hS.1) (fun q h1 h2 => by rw [hU]; exact hS.2.1 q h1 h2) hgl⟩
                  have hf : cells + (top1 - top) ≤ R.cells ∧ slots + (sl1 - sl) ≤ R.slots := by
                    constructor <;> omega
                  have hfr1 : d - 1 + 1 ≤ R.frames := by omega
                  have hlo1 : 64 * (d - 1 + 1) ≤ R.locals := by omega
                  have hmon : 2 * (F0 m pc ls (as.reverse ++ rest)).monitorRoom + (rest.map fun v => v.category).sum ≤ 8 := by
                    show 2 * 0 + _ ≤ 8
                    omega
                  rcases hkind with ⟨idx, rfl, hal⟩ | ⟨idx, b, as', rfl, rfl, hal⟩ | ⟨idx, b, as', rfl, rfl, hal, hbc⟩
                  · obtain ⟨hcc, hlk, hstc⟩ := hcf hlt
                    rcases hlk with hl | ⟨host, hl⟩
                    · exact va_runS ⟨hx, hb, hml, hown, hts⟩ hM ⟨am_callB hws hcc hfr1 hlo1 hl, hstc⟩ ⟨am_blind hG.2.1 as σ top, hpre⟩ rfl hal hinv.1.1.1 rfl hmon (am_dec1 hdec rfl) hf
                    · exact va_runSN ⟨hx, hb, hml, hown, hts⟩ hM ⟨am_callN hws hcc hfr1 hlo1 hl, hstc, trivial⟩ ⟨am_blind hG.2.1 as σ top, hpre⟩ rfl hal hinv.1.1.1 rfl hmon (am_dec1 hdec rfl) hf
                  · obtain ⟨hcc, hlk, hin, hnm, hrn⟩ := hcf hlt
                    rw [List.reverse_cons, List.append_assoc] at hmon ⊢
                    rcases hlk with hl | ⟨host, hl⟩
                    · have hcb := am_callB (mc := top1 - top) (ms := sl1 - sl) hws hcc hfr1 hlo1 hl
                      rw [hrn] at hcb
                      exact va_runI (As := as') ⟨hx, hb, hml, hown, hts⟩ hM ⟨hcb, hnm, hin⟩ ⟨am_blind hG.2.1 _ σ top, hpre⟩ rfl hal hinv.1.1.1 rfl hmon (am_dec1 hdec rfl) hf
                    · have hcb := am_callN (mc := top1 - top) (ms := sl1 - sl) hws hcc hfr1 hlo1 hl
                      rw [hrn] at hcb
                      exact va_runIN (As := as') ⟨hx, hb, hml, hown, hts⟩ hM ⟨hcb, hnm, hin⟩ ⟨am_blind hG.2.1 _ σ top, hpre⟩ rfl hal hinv.1.1.1 rfl hmon (am_dec1 hdec rfl) hf
                  · obtain ⟨hcc, hlk, hin, hsel, hcls⟩ := hcf hlt
                    rw [List.reverse_cons, List.append_assoc] at hmon ⊢
                    have hrec : ∃ cellB : Cell, H[b]? = some cellB ∧ cellB.vm.isStatics = false ∧ s.vm.findClass (yn u).cls = some cellB.cls := by
                      rcases hbc with ⟨fs, hb1⟩ | ⟨⟨av, f1, hb1⟩, h50⟩
                      · obtain ⟨hsz, hbt, tys, hK, hcl⟩ := hinv.2.1
                        obtain ⟨-, -, r1, hr9, -, cell, q1, q2, q3, -⟩ := hcl b _ hb1
                        refine ⟨cell, q1, by rw [q3]; rfl, ?_⟩
                        have := (hK.1 _ r1 hr9).2.1
                        rw [hG.1 _ r1 hr9, hcls] at this
                        rw [q2]
                        exact this
                      · obtain ⟨hsz, hbt, tys, hK, hcl⟩ := hinv.2.1
                        obtain ⟨-, -, ⟨cell, q1, q2, q3, -⟩, -⟩ := hcl b _ hb1
                        refine ⟨cell, q1, q2, ?_⟩
                        rw [← hcls, h50, hG50]
                        exact q3
                    rcases hlk with hl | ⟨host, hl⟩
                    · exact va_runV (As := as') ⟨hx, hb, hml, hown, hts⟩ hM ⟨am_callB hws hcc hfr1 hlo1 hl, hin, hsel⟩ ⟨am_blind hG.2.1 _ σ top, hrec, hpre⟩ rfl hal hinv.1.1.1 rfl hmon (am_dec1 hdec rfl) hf
                    · exact va_runVN (As := as') ⟨hx, hb, hml, hown, hts⟩ hM ⟨am_callN hws hcc hfr1 hlo1 hl, hin, hsel⟩ ⟨am_blind hG.2.1 _ σ top, hrec, hpre⟩ rfl hal hinv.1.1.1 rfl hmon (am_dec1 hdec rfl) hf
                · next a σ1 top1 sl1 hrun =>
                  have h0 : am_hd t y pc σ1 a = none := by
                    unfold am_hd
                    split
                    · exact hN _ _ _
                    · rfl
                  rw [h0] at h
                  cases h
              · cases h
          · cases h
      · split at h
        · cases h
        · next r he =>
          cases h
          exact hend pc lv st i u v hI he
end AMN
