def cd_cchk (k : Nat) : Bool := match cd_cl[k]? with
  | some r => decide (r.1 = cd_nm k) && (Nat.beq (cd_df k).length r.2.2 && (List.range r.2.2).all (fun j => cd_w ((cd_lpL.getD k []).getD j 0) (u_lay r.1 r.2.1 j) && (decide ((r.2.1 j).1 = r.1) && (decide (parseFieldDescriptor (r.2.1 j).2.2.1 = some (cd_ft k j)) && (decide (defaultValue (cd_ft k j) = vp_V (cd_df k) j) && (List.range r.2.2).all (fun i => Nat.beq i j || decide ((r.2.1 i).2.1 ≠ (r.2.1 j).2.1)))))))
  | none => true
set_option maxRecDepth 100000 in
theorem cd_c : (List.range 14).all cd_cchk = true := by decide +kernel
theorem cd_cls {k : Nat} {r : vw_C} (h : cd_cl[k]? = some r) : cd_cchk k = true := by
  have hk : k < 14 := (List.getElem?_eq_some_iff.mp h).1
  exact List.all_eq_true.mp cd_c k (List.mem_range.mpr hk)
theorem cd_cls_nm {k : Nat} {r : vw_C} (h : cd_cl[k]? = some r) : r.1 = cd_nm k := by
  have h1 := cd_cls h
  unfold cd_cchk at h1
  rw [h] at h1
  simp only [Bool.and_eq_true, decide_eq_true_eq] at h1
  exact h1.1
theorem cd_cls_df {k : Nat} {r : vw_C} (h : cd_cl[k]? = some r) : (cd_df k).length = r.2.2 := by
  have h1 := cd_cls h
  unfold cd_cchk at h1
  rw [h] at h1
  simp only [Bool.and_eq_true, decide_eq_true_eq] at h1
  exact Nat.eq_of_beq_eq_true h1.2.1
theorem cd_cls_f {k : Nat} {r : vw_C} (h : cd_cl[k]? = some r) {j : Nat} (hj : j < r.2.2) : cd_w ((cd_lpL.getD k []).getD j 0) (u_lay r.1 r.2.1 j) = true ∧ (r.2.1 j).1 = r.1 ∧ parseFieldDescriptor (r.2.1 j).2.2.1 = some (cd_ft k j) ∧ defaultValue (cd_ft k j) = vp_V (cd_df k) j ∧ ∀ i, i < r.2.2 → i ≠ j → (r.2.1 i).2.1 ≠ (r.2.1 j).2.1 := by
  have h1 := cd_cls h
  unfold cd_cchk at h1
  rw [h] at h1
  simp only [Bool.and_eq_true] at h1
  have h2 := List.all_eq_true.mp h1.2.2 j (List.mem_range.mpr hj)
  simp only [Bool.and_eq_true, decide_eq_true_eq] at h2
  obtain ⟨a1, a2, a3, a4, a5⟩ := h2
  refine ⟨a1, a2, a3, a4, fun i hi hne => ?_⟩
  have h3 := List.all_eq_true.mp a5 i (List.mem_range.mpr hi)
  rw [Bool.or_eq_true] at h3
  rcases h3 with h3 | h3
  · exact absurd (Nat.eq_of_beq_eq_true h3) hne
  · exact of_decide_eq_true h3
def cd_ws (y : Nat) : List Cond := if y = 0 then [] else [am_hc cd_t cd_yn cd_bt cd_rtt y]
def cd_nest (w : Cond) : Bool := match w with
  | .fieldLinkNest _ _ _ _ _ _ => true
  | .methodLinkNest _ _ _ _ => true
  | .castable _ _ => true
  | .declares _ => true
  | _ => false
/-- a static that holds a reference, whichever -/
def cd_S (C n d : String) (A : Nat → Prop) (U : State) (H : Heap) : Prop := ∃ (cf : ClassId) (kf : Class) (fi : Nat) (f : Field) (a : Nat) (cell : Cell) (v : Value), U.vm.findClass C = some cf ∧ U.fieldFound? C n d = some (cf, kf, fi, f) ∧ f.isStatic = true ∧ kf.statics = some a ∧ kf.staticTypes[f.slot]? = some f.type ∧ H[a]? = some cell ∧ cell.vm.isStatics = true ∧ cell.cls = cf ∧ cell.slots[f.slot]? = some v ∧ (v = .null ∨ ∃ b, v = .ref b) ∧ ¬ A a
theorem cd_S.moved {C n d : String} {A : Nat → Prop} {u U : State} {H : Heap} (hvm : u.vm.Alike U.vm) (h : cd_S C n d A u H) : cd_S C n d A U H := by
  obtain ⟨cf, kf, fi, f, a, cell, v, h1, h2, h3, h4, h5, h6⟩ := h
  obtain ⟨k', hi', he⟩ := State.fieldFound?_setVm hvm h2
  exact ⟨cf, k', fi, f, a, cell, v, by rw [hvm.findClass]; exact h1, hi', h3, by rw [he]; exact h4, by rw [he]; exact h5, h6⟩
theorem cd_S.kept {C n d : String} {A : Nat → Prop} {U : State} {H H1 : Heap} (h : cd_S C n d A U H) (hq : ∀ a : Nat, a < H.size → ¬ A a → H1[a]? = H[a]?) : cd_S C n d A U H1 := by
  obtain ⟨cf, kf, fi, f, a, cell, v, h1, h2, h3, h4, h5, h6, h7, h8, h9, h10, h11⟩ := h
  exact ⟨cf, kf, fi, f, a, cell, v, h1, h2, h3, h4, h5, by rw [hq a (Array.getElem?_eq_some_iff.mp h6).1 h11]; exact h6, h7, h8, h9, h10, h11⟩
theorem cd_S.lays {C n d : String} {A : Nat → Prop} {U : State} {args : Array Value} (h : cd_S C n d A U U.heap) : (Cond.laysStatic C n d).before args U = true := by
  obtain ⟨cf, kf, fi, f, a, cell, v, h1, h2, h3, h4, h5, h6, h7, h8, h9, h10, h11⟩ := h
  have hlt : f.slot < cell.slots.size := (Array.getElem?_eq_some_iff.mp h9).1
  simp [Cond.before, Cond.holds, Cond.value, h1, h2, h3, h4, h5, h6, h7, h8, hlt]
theorem cd_S.ref {C n d : String} {A : Nat → Prop} {U : State} {args : Array Value} (h : cd_S C n d A U U.heap) : (Cond.isRef (.static C n d)).before args U = true := by
  obtain ⟨cf, kf, fi, f, a, cell, v, h1, h2, h3, h4, h5, h6, h7, h8, h9, h10, h11⟩ := h
  rcases h10 with rfl | ⟨b, rfl⟩ <;> simp [Cond.before, Cond.holds, Cond.value, Term.eval, State.fieldNamed?, h2, h3, h4, h6, h7, h9]
theorem cd_Sof {args : Array Value} {s : State} {C n d : String} {A : Nat → Prop} (hl : (Cond.laysStatic C n d).before args s = true) (h : (Cond.isRef (.static C n d)).before args s = true) (hA : ∀ a : Nat, a < s.heap.size → ¬ A a) : cd_S C n d A s s.heap := by
  obtain ⟨c, k, i, f, a, cell, hc, hi, hst, ha, hcell, hs, hcls, hlt, hty⟩ := Cond.laysStatic_spec hl
  cases hv : (Term.static C n d).eval args s none [] s with
  | none => simp [Cond.before, Cond.holds, Cond.value, hv] at h
  | some w =>
    obtain ⟨-, a', cell', ha', hcell', -, hslot⟩ := Term.static_spec hi hv
    cases ha.symm.trans ha'
    cases hcell.symm.trans hcell'
    refine ⟨c, k, i, f, a, cell, w, hc, hi, hst, ha, hty, hcell, hs, hcls, hslot, ?_, hA a (Array.getElem?_eq_some_iff.mp hcell).1⟩
    simp only [Cond.before, Cond.holds, Cond.value, hv] at h
    cases w with
    | null => exact Or.inl rfl
    | ref b => exact Or.inr ⟨b, rfl⟩
    | _ => simp at h
/-- what an exception's constructor reads -/
def cd_ts : List (String × String × String) := [("java/lang/Throwable", "UNASSIGNED_STACK", "[Ljava/lang/StackTraceElement;"), ("java/lang/Throwable", "SUPPRESSED_SENTINEL", "Ljava/util/List;")]
/-- neither exception is the other -/
def cd_na (s : State) : Prop := ∀ i j, s.vm.findClass "java/lang/IllegalStateException" = some i → s.vm.findClass "java/lang/IllegalArgumentException" = some j → s.vm.assignable i j = false ∧ s.vm.assignable j i = false
/-- what is known of the tables and of the cells that were there at the start -/
def cd_GL (cs : Nat → Value) (b0 : Nat) (s : State) : Prop :=
  (∀ w ∈ lw_tbl, goodWord w = true → ∀ a : Array Value, w.before a s = true) ∧ (∀ w ∈ lw_tbl, cd_nest w = true → va_Nw w s) ∧
  (∀ q ∈ cd_sr, ∃ a, cs q.2.2.1 = .ref a ∧ vk_R q.1 q.2.1 q.2.2.2 a s) ∧ (∀ C ∈ cd_ao, va_AO C s) ∧ (∀ q ∈ cd_st, va_Z q.2.1 q.2.2.1 q.2.2.2 (cs q.1) (fun x => b0 ≤ x) s s.heap) ∧ (∀ q ∈ cd_ts, cd_S q.1 q.2.1 q.2.2 (fun x => b0 ≤ x) s s.heap) ∧ cd_na s
theorem cd_mv (cs : Nat → Value) (b0 : Nat) : am_mv b0 (cd_GL cs b0) := by
  intro s U hW hsz hq h
  obtain ⟨h1, h2, h3, h4, h5, h6, h7⟩ := h
  refine ⟨fun w hw hg a => word_at hW (good_of_word hg) (h1 w hw hg #[]), fun w hw hn => ?_, fun q hq2 => ?_, fun C hC => (h4 C hC).moved hW.alike, fun q hq2 => ((h5 q hq2).moved hW.alike).kept hq, fun q hq2 => ((h6 q hq2).moved hW.alike).kept hq, fun i j hi hj => ?_⟩
  · have h0 := h2 w hw hn
    cases w <;> first | exact va_Nw.warmF hW h0 | exact va_Nw.warmM hW h0 | exact va_Nw.warmC hW h0 | exact va_Nw.warmD hW h0 | cases hn
  · obtain ⟨a, e1, e2⟩ := h3 q hq2
    exact ⟨a, e1, e2.warm hW⟩
  · rw [hW.alike.findClass] at hi hj
    rw [hW.alike.assignable, hW.alike.assignable]
    exact h7 i j hi hj
section CDG
variable {cs : Nat → Value} {b0 : Nat} {s : State} {args : Array Value}
theorem cd_use (hG : cd_GL cs b0 s) {p : Nat} {w : Cond} (h : cd_w p w = true) : w.before args s = true := by
  unfold cd_w at h
  rw [Bool.and_eq_true] at h
  exact hG.1 w (cd_at_mem h.1) h.2 args
theorem cd_useF (hG : cd_GL cs b0 s) {p idx : Nat} {own C n d host : String} (h : cd_at p (.fieldLinkNest own idx C n d host) = true) : (Cond.fieldLinkNest own idx C n d host).before args s = true := va_Nw.use rfl (hG.2.1 _ (cd_at_mem h) rfl)
theorem cd_useM (hG : cd_GL cs b0 s) {p idx : Nat} {own host : String} {x : MethodName} (h : cd_at p (.methodLinkNest own idx x host) = true) : (Cond.methodLinkNest own idx x host).before args s = true := va_Nw.use rfl (hG.2.1 _ (cd_at_mem h) rfl)
theorem cd_mp_lt {u k : Nat} (h : (cd_mp u).1 = k) (hk : k ≠ 9) : u < 162 := by
  by_cases h1 : u < 162
  · exact h1
  · exfalso
    apply hk
    rw [← h]
    unfold cd_mp
    rw [List.getD_eq_getElem?_getD, List.getElem?_eq_none (by show 162 ≤ u; omega)]
    rfl
theorem cd_callee (hG : cd_GL cs b0 s) {y u v idx p kd : Nat} {own : String} (hu0 : u ≠ 0) (hkd : (cd_mp u).1 = kd) (h9 : kd ≠ 9) (hl : cd_link p own idx u v = true) : am_cc cd_t cd_yn cd_ws s args y u v ∧ am_lk cd_yn s args own idx u ∧
    (kd = 0 → (Cond.static (cd_yn u)).before args s = true) ∧ (kd = 1 → (Cond.instanceMethod (cd_yn u)).before args s = true ∧ (Cond.selects (cd_yn u).cls (cd_yn u) (cd_yn u)).before args s = true ∧ cd_nm (cd_mc u) = (cd_yn u).cls) ∧ (kd = 2 → (Cond.instanceMethod (cd_yn u)).before args s = true ∧ (cd_yn u).name = "<init>" ∧ cd_rtt u = none) := by
  have hm := cd_m u hu0 (cd_mp_lt hkd h9)
  unfold cd_mchk at hm
  unfold cd_link at hl
  simp only [Bool.and_eq_true, decide_eq_true_eq] at hm hl
  obtain ⟨m1, m2, m3, m4, m5, m6⟩ := hm
  obtain ⟨l1, l2⟩ := hl
  refine ⟨⟨fun w hw a' U hW => ?_, cd_use hG m2, ⟨m4, m5⟩, l2, Nat.le_of_ble_eq_true m3⟩, ?_, fun e => ?_, fun e => ?_, fun e => ?_⟩
  · unfold cd_ws at hw
    rw [if_neg hu0, List.mem_singleton] at hw
    subst hw
    have hg : goodWord (am_hc cd_t cd_yn cd_bt cd_rtt u) = true := by
      unfold cd_w at m1
      rw [Bool.and_eq_true] at m1
      exact m1.2
    exact word_at hW (good_of_word hg) (cd_use (args := #[]) hG m1)
  · rw [Bool.or_eq_true] at l1
    rcases l1 with l1 | l1
    · exact Or.inl (cd_use hG l1)
    · exact Or.inr ⟨_, cd_useM hG l1⟩
  · rw [hkd, e] at m6
    exact cd_use hG m6
  · rw [hkd, e] at m6
    simp only [Bool.and_eq_true, decide_eq_true_eq] at m6
    exact ⟨cd_use hG m6.1, cd_use hG m6.2.1, m6.2.2⟩
  · rw [hkd, e] at m6
    simp only [Bool.and_eq_true, decide_eq_true_eq, Option.isNone_iff_eq_none] at m6
    exact ⟨cd_use hG m6.1, m6.2.1, m6.2.2⟩
def cd_own (w : Cond) : Bool := (decide (w ∈ lw_tbl) && (goodWord w || cd_nest w)) || decide (w ∈ cd_ts.flatMap (fun q => [Cond.laysStatic q.1 q.2.1 q.2.2, Cond.isRef (.static q.1 q.2.1 q.2.2)]))
set_option maxRecDepth 100000 in
theorem cd_to : cd_tl.all (fun q => Bundle.fit q.2.2 && (Bundle.ownAtoms0 q.1 q.2.1 q.2.2 am_sup).all cd_own) = true := by decide +kernel
theorem cd_useN (hG : cd_GL cs b0 s) {w : Cond} (h : w ∈ lw_tbl) (hn : cd_nest w = true) : w.before args s = true := by
  have h0 := hG.2.1 w h hn
  cases w <;> first | exact va_Nw.use rfl h0 | cases hn
theorem cd_useT (hG : cd_GL cs b0 s) {own C : String} {ic : Nat} (h : (own, ic, C) ∈ cd_tl) : Bundle.fit C = true ∧ ∀ w ∈ Bundle.ownAtoms0 own ic C am_sup, w.before args s = true := by
  have h1 := List.all_eq_true.mp cd_to _ h
  rw [Bool.and_eq_true] at h1
  refine ⟨h1.1, fun w hw => ?_⟩
  have h2 := List.all_eq_true.mp h1.2 w hw
  unfold cd_own at h2
  rw [Bool.or_eq_true, Bool.and_eq_true, Bool.or_eq_true, decide_eq_true_eq, decide_eq_true_eq] at h2
  rcases h2 with ⟨h3, h4 | h4⟩ | h3
  · exact hG.1 w h3 h4 args
  · exact cd_useN hG h3 h4
  · obtain ⟨q, hq, hw⟩ := List.mem_flatMap.mp h3
    have hS := hG.2.2.2.2.2.1 q hq
    rcases List.mem_cons.mp hw with rfl | hw
    · exact hS.lays
    · rw [List.mem_singleton] at hw
      subst hw
      exact hS.ref
end CDG
