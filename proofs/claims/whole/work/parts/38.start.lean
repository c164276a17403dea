/-! the law's start: what its tables and its heap say, in the abstract machine's words -/
abbrev cd_fl : List Cond := flatC (Jvm.Cond.and given_1 narrow_1)
def cd_tm (i : Nat) : Term := [Term.string "ChainDesk$DeclarationReader" 44, Term.string "ChainDesk$DeclarationReader" 50, Term.string "ChainDesk$DeclarationReader" 88, Term.string "ChainDesk$Completer" 124].getD i .null
def cd_len : List Nat := [8, 4, 7, 4]
def cd_byt : List (List Int32) := [[112, 114, 105, 118, 97, 116, 101, 32], [110, 101, 119, 40], [115, 116, 97, 116, 105, 99, 32], [110, 101, 119, 32]]
def cd_cs (ad adK : Nat → Nat) (w : Value) (k : Nat) : Value := match k with
  | 0 => .ref (ad 0)
  | 1 => .ref (ad 1)
  | 2 => .ref (ad 2)
  | 3 => .int 1
  | 4 => w
  | k + 5 => .ref (adK (k - 5))
set_option maxRecDepth 100000 in
theorem cd_f1 : ∀ i, i < 4 → Cond.exactly (cd_tm i) "java/lang/String" ∈ cd_fl := by decide +kernel
set_option maxRecDepth 100000 in
theorem cd_f2 : ∀ i, i < 4 → Cond.eq (.field (cd_tm i) "java/lang/String" "coder" "B") (.int 0) ∈ cd_fl := by decide +kernel
set_option maxRecDepth 100000 in
theorem cd_f3 : ∀ i, i < 4 → Cond.arrayOf (.field (cd_tm i) "java/lang/String" "value" "[B") .byte ∈ cd_fl := by decide +kernel
set_option maxRecDepth 100000 in
theorem cd_f4 : ∀ i, i < 4 → Cond.eq (.length (.field (cd_tm i) "java/lang/String" "value" "[B")) (.int (Int32.ofNat (cd_len.getD i 0))) ∈ cd_fl := by decide +kernel
set_option maxRecDepth 100000 in
theorem cd_f5 : ∀ i, i < 4 → ∀ j, j < cd_len.getD i 0 → Cond.eq (.elem (.field (cd_tm i) "java/lang/String" "value" "[B") (.int (Int32.ofNat j))) (.int ((cd_byt.getD i []).getD j 0)) ∈ cd_fl := by decide +kernel
set_option maxRecDepth 100000 in
theorem cd_f6 : ∀ i, i < 4 → ∀ j, j < 4 → i ≠ j → Cond.not (Cond.eq (cd_tm i) (cd_tm j)) ∈ cd_fl ∨ Cond.not (Cond.eq (cd_tm j) (cd_tm i)) ∈ cd_fl := by decide +kernel
def cd_kn : List String := ["FIELD", "METHOD", "MAKER"]
set_option maxRecDepth 100000 in
theorem cd_f7 : ∀ i, i < cd_kn.length → Cond.laysStatic "ChainDesk$Kind" (cd_kn.getD i "") "LChainDesk$Kind;" ∈ lw_tbl := by decide +kernel
set_option maxRecDepth 100000 in
theorem cd_f8 : ∀ i, i < cd_kn.length → Cond.exactly (.static "ChainDesk$Kind" (cd_kn.getD i "") "LChainDesk$Kind;") "ChainDesk$Kind" ∈ cd_fl := by decide +kernel
set_option maxRecDepth 100000 in
theorem cd_f9 : ∀ i, i < cd_kn.length → ∀ j, j < cd_kn.length → i ≠ j → Cond.not (.eq (.static "ChainDesk$Kind" (cd_kn.getD i "") "LChainDesk$Kind;") (.static "ChainDesk$Kind" (cd_kn.getD j "") "LChainDesk$Kind;")) ∈ cd_fl ∨ Cond.not (.eq (.static "ChainDesk$Kind" (cd_kn.getD j "") "LChainDesk$Kind;") (.static "ChainDesk$Kind" (cd_kn.getD i "") "LChainDesk$Kind;")) ∈ cd_fl := by decide +kernel
set_option maxRecDepth 100000 in
theorem cd_f10 : Cond.initialized "ChainDesk$Kind" ∈ lw_tbl ∧ Cond.initialized "java/lang/String" ∈ lw_tbl ∧ Cond.initialized "jdk/internal/util/Preconditions" ∈ lw_tbl ∧ Cond.laysStatic "java/lang/String" "COMPACT_STRINGS" "Z" ∈ lw_tbl ∧ Cond.laysStatic "jdk/internal/util/Preconditions" "SIOOBE_FORMATTER" "Ljava/util/function/BiFunction;" ∈ lw_tbl := by decide +kernel
set_option maxRecDepth 100000 in
theorem cd_f11 : Cond.eq (.static "java/lang/String" "COMPACT_STRINGS" "Z") (.int 1) ∈ cd_fl ∧ Cond.isRef (.static "jdk/internal/util/Preconditions" "SIOOBE_FORMATTER" "Ljava/util/function/BiFunction;") ∈ cd_fl ∧ Cond.not (.castable "java/lang/IllegalStateException" "java/lang/IllegalArgumentException") ∈ cd_fl ∧ Cond.not (.castable "java/lang/IllegalArgumentException" "java/lang/IllegalStateException") ∈ cd_fl ∧ Cond.eq (.string "ChainDesk$Completer" 124) (.string "ChainDesk$ExpressionReader" 48) ∈ cd_fl := by decide +kernel
set_option maxRecDepth 100000 in
theorem cd_f12 : ∀ q ∈ cd_ts, Cond.laysStatic q.1 q.2.1 q.2.2 ∈ lw_tbl ∧ Cond.isRef (.static q.1 q.2.1 q.2.2) ∈ cd_fl := by decide +kernel
set_option maxRecDepth 100000 in
theorem cd_f13 : ∀ C ∈ cd_ao, Cond.arrayOver (.object C) ∈ lw_tbl := by decide +kernel
set_option maxRecDepth 100000 in
theorem cd_f14 : ∀ q ∈ cd_sr, Cond.stringRef q.1 q.2.1 q.2.2.2 ∈ lw_tbl := by decide +kernel
set_option maxRecDepth 100000 in
theorem cd_f15 : ∀ k, k < 14 → Cond.instantiable (cd_nm k) (cd_ns k) ∈ lw_tbl := by decide +kernel
theorem cd_nocast {args : Array Value} {s : State} {A B : String} (h : (Cond.not (.castable A B)).before args s = true) {i j : ClassId} (hi : s.vm.findClass A = some i) (hj : s.vm.findClass B = some j) : s.vm.assignable i j = false := by
  simpa [Cond.before, Cond.holds, Cond.value, hi, hj] using h
theorem cd_eqr {args : Array Value} {s : State} {t u : Term} {a : Nat} (h : (Cond.eq t u).before args s = true) (ht : t.eval args s none [] s = some (.ref a)) : u.eval args s none [] s = some (.ref a) := by
  cases hv : u.eval args s none [] s with
  | none => simp [Cond.before, Cond.holds, Cond.value, ht, hv] at h
  | some w =>
    simp only [Cond.before, Cond.holds, Cond.value, ht, hv] at h
    cases w <;> simp_all
/-- the length of a constant text's bytes, as the machine has it -/
theorem cd_size {args : Array Value} {s : State} {t : Term} {a : Nat} {cell : Cell} {z : Int32} (h : (Cond.eq (.length t) (.int z)).before args s = true) (ht : t.eval args s none [] s = some (.ref a)) (hc : s.heap[a]? = some cell) : cell.slots.size < 2 ^ 31 := by
  have h1 := va_eqt h
  simp only [Term.eval, ht, Option.bind_eq_bind, Option.bind_some] at h1
  cases ha : s.arrayAt? a with
  | none => simp [ha] at h1
  | some c2 =>
    obtain ⟨hcb, -⟩ := State.arrayAt?_spec ha
    cases hc.symm.trans hcb
    simp only [ha, Option.bind_some] at h1
    split at h1
    · assumption
    · cases h1
/-- the script, the texts and their bytes -/
noncomputable def cd_s0 (b L : Nat) (xs : Nat → Int32) (adK adV : Nat → Nat) : am_H := fun q =>
  if q = b then some (.inr (.inr (0, L, xs)))
  else @dite _ (∃ i, i < 4 ∧ adV i = q) (Classical.propDecidable _) (fun h => some (.inr (.inr (2, cd_len.getD h.choose 0, fun j => (cd_byt.getD h.choose []).getD j 0)))) (fun _ =>
    @dite _ (∃ i, i < 4 ∧ adK i = q) (Classical.propDecidable _) (fun h => some (.inr (.inr (1, adV h.choose, fun _ => 0)))) (fun _ => none))
theorem cd_l31 : ∀ i, i < 4 → cd_len.getD i 0 < 2 ^ 31 := by decide
/-- what is known where the law begins -/
def cd_ini (b L : Nat) (xs : Nat → Int32) (ad adK adV : Nat → Nat) (w : Value) (b0 : Nat) (σ : am_H) : Prop :=
  L ≤ 1536 ∧ (w = .null ∨ ∃ t, w = .ref t) ∧ (∀ i j, i < 3 → j < 3 → ad i = ad j → i = j) ∧ b < b0 ∧ (∀ i, i < 4 → adK i < b0 ∧ adV i < b0) ∧ σ b = some (.inr (.inr (0, L, xs))) ∧
  (∀ i, i < 4 → σ (adK i) = some (.inr (.inr (1, adV i, fun _ => 0))) ∧ σ (adV i) = some (.inr (.inr (2, cd_len.getD i 0, fun j => (cd_byt.getD i []).getD j 0)))) ∧ ∀ q e, σ q = some e → q < b0
/-- what is left, of the abstract machine alone: the law answers 1, in its room -/
def cd_claim : Prop := ∀ (b L : Nat) (xs : Nat → Int32) (ad adK adV : Nat → Nat) (w : Value) (b0 : Nat) (σ : am_H), cd_ini b L xs ad adK adV w b0 σ →
  ∃ σ' top' sl', am_to cd_t (cd_cs ad adK w) 1312 0 0 (am_ent 7 [.ref b]) [] σ b0 0 (.inl (some (.int 1)), σ', top', sl') ∧ top' ≤ b0 + 601024 ∧ sl' ≤ 7293034
section CDS
variable {p : Program} {s : State} {m : MethodId} {meth : Method} {c : Code} {b L : Nat} {xs : Nat → Int32}
theorem cd_begin (hL : L ≤ 1536) (hts : ∀ w ∈ lw_tbl, w.before #[Value.ref b] s = true) (hX : va_X b L xs s s.heap) (hb : b < s.heap.size) (hgv : (Jvm.Cond.and given_1 narrow_1).before #[Value.ref b] s = true) :
    ∃ (ad adK adV : Nat → Nat) (w : Value) (D : va_G) (σ : am_H), cd_ini b L xs ad adK adV w s.heap.size σ ∧ cd_GL (cd_cs ad adK w) s.heap.size s ∧ am_dy D cd_cl s.heap.size s σ s.heap.size s.heap := by
  have hs := flat_of_before _ hgv
  have hA : ∀ a : Nat, a < s.heap.size → ¬ s.heap.size ≤ a := fun a h => by omega
  obtain ⟨adK, adV, hS, hev⟩ := vk_Sof (args := #[Value.ref b]) (s := s) (N := 4) (tm := cd_tm) (len := cd_len) (byt := cd_byt) (A := fun q => s.heap.size ≤ q) (by decide) (fun i hi => hs _ (cd_f1 i hi)) (fun i hi => hs _ (cd_f2 i hi)) (fun i hi => hs _ (cd_f3 i hi)) (fun i hi => hs _ (cd_f4 i hi)) (fun i hi j hj => hs _ (cd_f5 i hi j hj)) (fun i j hi hj hij => (cd_f6 i hi j hj hij).imp (hs _) (hs _)) hA
  obtain ⟨ad, hE, -⟩ := va_Enof2 (args := #[Value.ref b]) (s := s) (E := "ChainDesk$Kind") (d := "LChainDesk$Kind;") (nm := cd_kn) (F := []) (A := fun q => s.heap.size ≤ q) (fun i hi => hts _ (cd_f7 i hi)) (hts _ cd_f10.1) (fun i hi => hs _ (cd_f8 i hi)) (fun q hq => by cases hq) (fun i j hi hj hij => (cd_f9 i hi j hj hij).imp (hs _) (hs _)) hA
  have hC : va_Z "java/lang/String" "COMPACT_STRINGS" "Z" (.int 1) (fun q => s.heap.size ≤ q) s s.heap := va_Zof (hts _ cd_f10.2.2.2.1) (hts _ cd_f10.2.1) (va_eqi (hs _ cd_f11.1)) hA
  obtain ⟨w, hw, hZ⟩ : ∃ w : Value, (w = .null ∨ ∃ t, w = .ref t) ∧ va_Z "jdk/internal/util/Preconditions" "SIOOBE_FORMATTER" "Ljava/util/function/BiFunction;" w (fun q => s.heap.size ≤ q) s s.heap := by
    rcases va_Zqof (A := fun q => s.heap.size ≤ q) (hts _ cd_f10.2.2.2.2) (hts _ cd_f10.2.2.1) (hs _ cd_f11.2.1) hA with h | ⟨t, h⟩
    · exact ⟨_, Or.inl rfl, h⟩
    · exact ⟨_, Or.inr ⟨t, rfl⟩, h⟩
  have hcellV : ∀ i, i < 4 → ∃ cell : Cell, s.heap[adV i]? = some cell ∧ s.isArrayOf cell .byte ∧ cell.slots.size = cd_len.getD i 0 ∧ ∀ j, j < cd_len.getD i 0 → cell.slots[j]? = some (.int ((cd_byt.getD i []).getD j 0)) := by
    intro i hi
    obtain ⟨cell, h1, h2, h3, h4, h5, h6, h7⟩ := (hS.1 i hi).2.2.2
    obtain ⟨cf, k, fi, f, cellK, g1, g2, g3, g4, g5, g6⟩ := (hS.1 i hi).2.2.1
    have hfe : (Term.field (cd_tm i) "java/lang/String" "value" "[B").eval #[Value.ref b] s none [] s = some (.ref (adV i)) := by
      obtain ⟨t, ht, hT⟩ := va_Tof (f := fun j => .int ((cd_byt.getD i []).getD j 0)) (A := fun q => s.heap.size ≤ q) (cd_l31 i hi) (hs _ (cd_f3 i hi)) (va_eqt (hs _ (cd_f4 i hi))) (fun j hj => va_eqt (hs _ (cd_f5 i hi j hj))) hA
      obtain ⟨cf2, k2, fi2, f2, cell2, e1, e2, e3, e4, e5, e6⟩ := vk_OFof (hev i hi) ht hA
      cases g1.symm.trans e1
      cases g3.symm.trans e3
      cases g5.symm.trans e5
      exact ht
    have hsz := cd_size (hs _ (cd_f4 i hi)) hfe h1
    refine ⟨cell, h1, h2, ?_, h6⟩
    have hl := cd_l31 i hi
    have h9 : Int32.ofNat cell.slots.size = Int32.ofNat (cd_len.getD i 0) := h5
    have h10 := congrArg Int32.toNatClampNeg h9
    rw [Int32.toNatClampNeg_ofNat_of_lt hsz, Int32.toNatClampNeg_ofNat_of_lt hl] at h10
    exact h10
  have hcellK : ∀ i, i < 4 → ∃ (cell : Cell) (k : Nat), s.heap[adK i]? = some cell ∧ cell.slots[k]? = some (.ref (adV i)) := by
    intro i hi
    obtain ⟨cf, k, fi, f, cellK, g1, g2, g3, g4, g5, g6⟩ := (hS.1 i hi).2.2.1
    exact ⟨cellK, f.slot, g3, g5⟩
  have hltK : ∀ i, i < 4 → adK i < s.heap.size := fun i hi => by
    obtain ⟨cell, k, h1, -⟩ := hcellK i hi
    exact (Array.getElem?_eq_some_iff.mp h1).1
  have hltV : ∀ i, i < 4 → adV i < s.heap.size := fun i hi => by
    obtain ⟨cell, h1, -⟩ := hcellV i hi
    exact (Array.getElem?_eq_some_iff.mp h1).1
  have hVK : ∀ i j, i < 4 → j < 4 → adV i ≠ adK j := by
    intro i j hi hj e
    obtain ⟨cell, h1, h2, h3, h4⟩ := hcellV i hi
    obtain ⟨cellK, k, g1, g2⟩ := hcellK j hj
    rw [e] at h1
    cases h1.symm.trans g1
    have hk : k < cd_len.getD i 0 := by rw [← h3]; exact (Array.getElem?_eq_some_iff.mp g2).1
    cases (h4 k hk).symm.trans g2
  have hVb : ∀ i, i < 4 → adV i ≠ b := by
    intro i hi e
    obtain ⟨cell, h1, ⟨-, k, hk, comp, hkk⟩, -⟩ := hcellV i hi
    obtain ⟨scr, g1, ⟨-, k', hk', comp', hkk'⟩, -⟩ := hX
    rw [e] at h1
    cases h1.symm.trans g1
    cases hk.symm.trans hk'
    cases hkk.symm.trans hkk'
  have hKb : ∀ i, i < 4 → adK i ≠ b := by
    intro i hi e
    obtain ⟨cellK, k, h1, h2⟩ := hcellK i hi
    obtain ⟨scr, g1, -, -, g4, g5⟩ := hX
    rw [e] at h1
    cases h1.symm.trans g1
    have hk : k < L := by rw [← g4]; exact (Array.getElem?_eq_some_iff.mp h2).1
    cases (g5 k hk).symm.trans h2
  have hbyt : ∀ i, i < 4 → ∀ j, j < 4 → cd_len.getD i 0 = cd_len.getD j 0 → (∀ k, k < cd_len.getD i 0 → (cd_byt.getD i []).getD k 0 = (cd_byt.getD j []).getD k 0) → i = j := by decide +kernel
  have hVV : ∀ i j, i < 4 → j < 4 → adV i = adV j → i = j := by
    intro i j hi hj e
    obtain ⟨cell, h1, h2, h3, h4⟩ := hcellV i hi
    obtain ⟨cell', g1, g2, g3, g4⟩ := hcellV j hj
    rw [e] at h1
    cases h1.symm.trans g1
    refine hbyt i hi j hj (h3.symm.trans g3) fun k hk => ?_
    have e1 := h4 k hk
    have e2 := g4 k (by rw [← g3, h3]; exact hk)
    exact Value.int.inj (Option.some.inj (e1.symm.trans e2))
  have sb : cd_s0 b L xs adK adV b = some (.inr (.inr (0, L, xs))) := by
    unfold cd_s0
    rw [if_pos rfl]
  have sV : ∀ i, i < 4 → cd_s0 b L xs adK adV (adV i) = some (.inr (.inr (2, cd_len.getD i 0, fun j => (cd_byt.getD i []).getD j 0))) := by
    intro i hi
    unfold cd_s0
    have h : ∃ i', i' < 4 ∧ adV i' = adV i := ⟨i, hi, rfl⟩
    have e : h.choose = i := hVV _ _ h.choose_spec.1 hi h.choose_spec.2
    rw [if_neg (hVb i hi), dif_pos h, e]
  have sK : ∀ i, i < 4 → cd_s0 b L xs adK adV (adK i) = some (.inr (.inr (1, adV i, fun _ => 0))) := by
    intro i hi
    unfold cd_s0
    have h : ∃ i', i' < 4 ∧ adK i' = adK i := ⟨i, hi, rfl⟩
    have e : h.choose = i := hS.2 _ _ h.choose_spec.1 hi h.choose_spec.2
    have hn : ¬ ∃ i', i' < 4 ∧ adV i' = adK i := fun ⟨i', h1, h2⟩ => hVK i' i h1 hi h2
    rw [if_neg (hKb i hi), dif_neg hn, dif_pos h, e]
  have sI : ∀ q e, cd_s0 b L xs adK adV q = some e → (q = b ∧ e = .inr (.inr (0, L, xs))) ∨ (∃ i, i < 4 ∧ q = adV i ∧ e = .inr (.inr (2, cd_len.getD i 0, fun j => (cd_byt.getD i []).getD j 0))) ∨ ∃ i, i < 4 ∧ q = adK i ∧ e = .inr (.inr (1, adV i, fun _ => 0)) := by
    intro q e h
    unfold cd_s0 at h
    split at h
    · next hq => cases h; exact Or.inl ⟨hq, rfl⟩
    · split at h
      · next hq => cases h; exact Or.inr (Or.inl ⟨_, hq.choose_spec.1, hq.choose_spec.2.symm, rfl⟩)
      · split at h
        · next hq => cases h; exact Or.inr (Or.inr ⟨_, hq.choose_spec.1, hq.choose_spec.2.symm, rfl⟩)
        · cases h
  have hcl : ∀ k : Nat, ∃ q : ClassId × (Nat → Nat), ∀ r : vw_C, cd_cl[k]? = some r → u_Kn s r.1 r.2.1 r.2.2 q.1 q.2 := by
    intro k
    cases hr : cd_cl[k]? with
    | none => exact ⟨(0, fun _ => 0), fun r h => by cases h⟩
    | some r =>
      have hk : k < 14 := (List.getElem?_eq_some_iff.mp hr).1
      have hi := hts _ (cd_f15 k hk)
      rw [← cd_cls_nm hr] at hi
      obtain ⟨cC, iS, h⟩ := u_known (C := r.1) (T := r.2.1) (N := r.2.2) hts (fun w hw => by
        obtain ⟨j, hj, rfl⟩ := List.mem_map.mp hw
        have h1 := (cd_cls_f hr (List.mem_range.mp hj)).1
        unfold cd_w at h1
        rw [Bool.and_eq_true] at h1
        exact cd_at_mem h1.1) hi
      exact ⟨(cC, iS), fun r' hr' => by cases hr'; exact h⟩
  obtain ⟨D0, hD0⟩ := Classical.axiomOfChoice hcl
  refine ⟨ad, adK, adV, w, (fun k => (D0 k).1, fun k => (D0 k).2), cd_s0 b L xs adK adV, ⟨hL, hw, fun i j hi hj => hE.2 i j hi hj, hb, fun i hi => ⟨hltK i hi, hltV i hi⟩, sb, fun i hi => ⟨sK i hi, sV i hi⟩, fun q e h => ?_⟩, ?_, ?_⟩
  · rcases sI q e h with ⟨rfl, -⟩ | ⟨i, hi, rfl, -⟩ | ⟨i, hi, rfl, -⟩
    · exact hb
    · exact hltV i hi
    · exact hltK i hi
  · refine ⟨fun w' hw' hg a => word_at (State.WarmedH.refl s) (good_of_word hg) (hts w' hw'), fun w' hw' hn => ?_, fun q hq => ?_, fun C hC2 => va_AO.of (hts _ (cd_f13 C hC2)), fun q hq => ?_, fun q hq => ?_, fun i j hi hj => ⟨cd_nocast (hs _ cd_f11.2.2.1) hi hj, cd_nocast (hs _ cd_f11.2.2.2.1) hj hi⟩⟩
    · have h0 := hts w' hw'
      cases w' <;> first | exact va_Nw.of rfl h0 | cases hn
    · have h1 := hts _ (cd_f14 q hq)
      have e0 := hev 0 (by decide)
      have e1 := hev 1 (by decide)
      have e2 := hev 2 (by decide)
      have e3 := hev 3 (by decide)
      have e4 := cd_eqr (hs _ cd_f11.2.2.2.2) e3
      unfold cd_sr at hq
      simp only [List.mem_cons, List.not_mem_nil, or_false] at hq
      rcases hq with rfl | rfl | rfl | rfl | rfl
      · exact ⟨adK 0, rfl, vk_R.of h1 e0⟩
      · exact ⟨adK 1, rfl, vk_R.of h1 e1⟩
      · exact ⟨adK 2, rfl, vk_R.of h1 e2⟩
      · exact ⟨adK 3, rfl, vk_R.of h1 e3⟩
      · exact ⟨adK 3, rfl, vk_R.of h1 e4⟩
    · unfold cd_st at hq
      simp only [List.mem_cons, List.not_mem_nil, or_false] at hq
      rcases hq with rfl | rfl | rfl | rfl | rfl
      · exact (hE.1 0 (by decide)).1
      · exact (hE.1 1 (by decide)).1
      · exact (hE.1 2 (by decide)).1
      · exact hC
      · exact hZ
    · exact cd_Sof (hts _ (cd_f12 q hq).1) (hs _ (cd_f12 q hq).2) hA
  · refine ⟨rfl, Nat.le_refl _, [], ⟨fun k r hr => hD0 k r hr, fun k q hq => by cases hq⟩, fun q e h => ?_⟩
    rcases sI q e h with ⟨rfl, rfl⟩ | ⟨i, hi, rfl, rfl⟩ | ⟨i, hi, rfl, rfl⟩
    · exact ⟨hb, hb, hX⟩
    · exact ⟨hltV i hi, hltV i hi, (hS.1 i hi).2.2.2⟩
    · exact ⟨hltK i hi, hltK i hi, (hS.1 i hi).1, (hS.1 i hi).2.1, (hS.1 i hi).2.2.1⟩
end CDS
