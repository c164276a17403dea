section CDR
variable {cs : Nat → Value} {b0 : Nat} {s : State} {args : Array Value} {meth : Method}
theorem cd_words (hG : cd_GL cs b0 s) {k : Nat} {r : vw_C} (h : cd_cl[k]? = some r) : ∀ w ∈ u_ws r.1 r.2.1 r.2.2, w.before args s = true := by
  intro w hw
  obtain ⟨j, hj, rfl⟩ := List.mem_map.mp hw
  exact cd_use hG (cd_cls_f h (List.mem_range.mp hj)).1
theorem cd_I_mem {y pc u v : Nat} {i : Instr} (h : cd_I y pc = some (i, u, v)) : ∃ ps, (pc, i, u, v, ps) ∈ cd_rows.getD y [] := by
  unfold cd_I at h
  cases hf : (cd_rows.getD y []).find? (fun q => Nat.beq q.1 pc) with
  | none => rw [hf] at h; cases h
  | some q =>
    rw [hf] at h
    have h1 := List.mem_of_find?_eq_some hf
    have h2 := List.find?_some (p := fun q : Nat × Instr × Nat × Nat × List Nat => Nat.beq q.1 pc) hf
    obtain ⟨p1, i1, u1, v1, ps⟩ := q
    cases h
    have : p1 = pc := Nat.eq_of_beq_eq_true h2
    subst this
    exact ⟨ps, h1⟩
set_option maxHeartbeats 4000000 in
theorem cd_row {y pc u v : Nat} {i : Instr} (h : cd_I y pc = some (i, u, v)) (hG : cd_GL cs b0 s) (hmn : meth.name = (cd_yn y).name) :
    am_dec (cd_bt y) pc i ∧ am_fact cs cd_ft cd_df cd_ns cd_nm cd_cl b0 s args meth (cd_yn y).cls pc i u v ∧ am_cf cd_t cd_yn cd_rtt cd_ws s args y i u v ∧ am_ro i (cd_rtt y) ∧ (am_kind i u = 1 → u ≠ 0) := by
  obtain ⟨ps, hm⟩ := cd_I_mem h
  have hc := List.all_eq_true.mp (cd_k y) _ hm
  unfold cd_chk at hc
  rw [Bool.and_eq_true] at hc
  obtain ⟨hd, hc⟩ := hc
  refine ⟨am_decb_ok hd, ?_⟩
  dsimp only at hc
  cases i with
  | ldc idx =>
    refine ⟨?_, trivial, trivial, fun z => by cases z⟩
    obtain ⟨q, hq, e⟩ := List.mem_map.mp (of_decide_eq_true hc)
    obtain ⟨a, e1, e2⟩ := hG.2.2.1 q hq
    obtain ⟨q1, q2, q3, q4⟩ := q
    cases e
    exact ⟨q4, a, e1, e2⟩
  | getstatic idx =>
    dsimp only at hc
    refine ⟨?_, trivial, trivial, fun z => by cases z⟩
    split at hc
    · next z hz =>
      have h1 := List.mem_of_find?_eq_some hz
      have h2 : z.1 = u := Nat.eq_of_beq_eq_true (List.find?_some (p := fun z : Nat × String × String × String => Nat.beq z.1 u) hz)
      have h3 := hG.2.2.2.2.1 z h1
      rw [h2] at h3
      exact ⟨_, _, _, h3, cd_use hG hc⟩
    · cases hc
  | goto off =>
    have h9 : (pc : Int) + off = (u : Int) := of_decide_eq_true hc
    exact ⟨h9, trivial, trivial, fun z => by cases z⟩
  | ifCond cd off =>
    have h9 : (pc : Int) + off = (u : Int) := of_decide_eq_true hc
    exact ⟨h9, trivial, trivial, fun z => by cases z⟩
  | if_icmp cd off =>
    have h9 : (pc : Int) + off = (u : Int) := of_decide_eq_true hc
    exact ⟨h9, trivial, trivial, fun z => by cases z⟩
  | if_acmp cd off =>
    have h9 : (pc : Int) + off = (u : Int) := of_decide_eq_true hc
    exact ⟨h9, trivial, trivial, fun z => by cases z⟩
  | ifnull off =>
    have h9 : (pc : Int) + off = (u : Int) := of_decide_eq_true hc
    exact ⟨h9, trivial, trivial, fun z => by cases z⟩
  | ifnonnull off =>
    have h9 : (pc : Int) + off = (u : Int) := of_decide_eq_true hc
    exact ⟨h9, trivial, trivial, fun z => by cases z⟩
  | getfield idx =>
    dsimp only at hc
    refine ⟨?_, trivial, trivial, fun z => by cases z⟩
    dsimp only [am_fact]
    by_cases h50 : u = 50
    · rw [if_pos h50]
      subst h50
      have hc : (bif Nat.beq v 0 then cd_w (ps.getD 0 0) (.fieldLink (cd_yn y).cls idx "java/lang/String" "value" "[B") else cd_w (ps.getD 0 0) (.fieldLink (cd_yn y).cls idx "java/lang/String" "coder" "B")) = true := hc
      by_cases hv : v = 0
      · rw [if_pos hv]
        subst hv
        exact cd_use hG hc
      · rw [if_neg hv]
        rw [show Nat.beq v 0 = false from Bool.eq_false_iff.mpr fun z => hv (Nat.eq_of_beq_eq_true z)] at hc
        exact cd_use hG hc
    · rw [if_neg h50]
      rw [show Nat.beq u 50 = false from Bool.eq_false_iff.mpr fun z => h50 (Nat.eq_of_beq_eq_true z)] at hc
      dsimp only [cond_false] at hc
      split at hc
      · next r hr =>
        rw [Bool.and_eq_true, Bool.or_eq_true] at hc
        obtain ⟨C, T, N⟩ := r
        refine ⟨C, T, N, hr, cd_words hG hr, fun j hj => (cd_cls_f hr hj).2.1, Nat.ble_eq.mp hc.1, ?_⟩
        rcases hc.2 with h1 | h1
        · exact Or.inl (cd_use hG h1)
        · exact Or.inr ⟨_, cd_useF hG h1⟩
      · cases hc
  | putfield idx =>
    dsimp only at hc
    refine ⟨?_, trivial, trivial, fun z => by cases z⟩
    split at hc
    · next r hr =>
      rw [Bool.and_eq_true, Bool.or_eq_true, Bool.and_eq_true, Bool.and_eq_true, Bool.or_eq_true, Bool.and_eq_true, Bool.not_eq_true', decide_eq_true_eq, decide_eq_true_eq] at hc
      obtain ⟨C, T, N⟩ := r
      refine ⟨C, T, N, hr, cd_words hG hr, fun j hj => (cd_cls_f hr hj).2.1, Nat.ble_eq.mp hc.1, fun j hj => (cd_cls_f hr hj).2.2.1, fun a ha b hb hab => (cd_cls_f hr hb).2.2.2.2 a ha hab, ?_⟩
      rcases hc.2 with ⟨h1, h2⟩ | ⟨h1, h2⟩
      · refine Or.inl ⟨cd_use hG h1, ?_⟩
        cases hf : (T v).2.2.2 with
        | false => exact Or.inl rfl
        | true =>
          rcases h2 with h2 | h2
          · rw [hf] at h2
            cases h2
          · exact Or.inr ⟨rfl, hmn.trans h2.1, h2.2⟩
      · exact Or.inr ⟨h1, _, cd_useF hG h2⟩
    · cases hc
  | new idx =>
    dsimp only at hc
    refine ⟨?_, trivial, trivial, fun z => absurd z (by dsimp only [am_kind]; split <;> decide)⟩
    split at hc
    · next r hr =>
      rw [Bool.and_eq_true, Bool.and_eq_true, Bool.and_eq_true] at hc
      obtain ⟨C, T, N⟩ := r
      exact ⟨C, T, N, hr, cd_words hG hr, fun j hj => (cd_cls_f hr hj).2.2.1, cd_use hG hc.1, cd_use hG hc.2.1, cd_use hG hc.2.2.1, fun j hj => (cd_cls_f hr hj).2.2.2.1, cd_cls_df hr⟩
    · cases hc
  | newarray at_ => exact ⟨cd_use hG hc, trivial, trivial, fun z => by cases z⟩
  | anewarray idx =>
    rw [Bool.and_eq_true] at hc
    exact ⟨⟨cd_use hG hc.1, hG.2.2.2.1 _ (of_decide_eq_true hc.2)⟩, trivial, trivial, fun z => by cases z⟩
  | invokespecial idx =>
    by_cases h1 : u = 1000
    · subst h1
      have hc : (cd_w (ps.getD 0 0) (.methodLink (cd_yn y).cls idx objectInit) && (cd_w (ps.getD 1 0) (.instanceMethod objectInit) && cd_w (ps.getD 2 0) (.code objectInit ⟨#[0xb1]⟩ 1 none))) = true := hc
      rw [Bool.and_eq_true, Bool.and_eq_true] at hc
      exact ⟨fun _ => ⟨cd_use hG hc.1, cd_use hG hc.2.1, cd_use hG hc.2.2⟩, fun z => absurd z (by decide), trivial, fun _ => by decide⟩
    · rw [show Nat.beq u 1000 = false from Bool.eq_false_iff.mpr fun z => h1 (Nat.eq_of_beq_eq_true z)] at hc
      dsimp only [cond_false] at hc
      simp only [Bool.and_eq_true, List.isEmpty_iff] at hc
      obtain ⟨q1, q2, q3, q4, q5, q6⟩ := hc
      have hu0 : u ≠ 0 := by have := Nat.le_of_ble_eq_true q1; omega
      refine ⟨fun z => absurd z h1, fun hlt => ?_, trivial, fun _ => hu0⟩
      obtain ⟨c1, c2, -, -, c5⟩ := cd_callee (args := args) (y := y) hG hu0 (Nat.eq_of_beq_eq_true q3) (by decide) q4
      exact ⟨c1, c2, (c5 rfl).1, (c5 rfl).2.1, (c5 rfl).2.2, q5, q6⟩
  | invokestatic idx =>
    by_cases hb : 1000 < u
    · refine ⟨trivial, fun hlt => ?_, trivial, fun _ => by omega⟩
      omega
    · rw [show Nat.blt 1000 u = false from Bool.eq_false_iff.mpr fun z => hb (Nat.le_of_ble_eq_true z)] at hc
      dsimp only [cond_false] at hc
      simp only [Bool.and_eq_true, Bool.or_eq_true, List.isEmpty_iff] at hc
      obtain ⟨q1, q2, q3, q4, q5, q6⟩ := hc
      have hu0 : u ≠ 0 := by have := Nat.le_of_ble_eq_true q1; omega
      refine ⟨trivial, fun hlt => ?_, trivial, fun _ => hu0⟩
      obtain ⟨c1, c2, c3, -, -⟩ := cd_callee (args := args) (y := y) hG hu0 (Nat.eq_of_beq_eq_true q3) (by decide) q4
      exact ⟨c1, c2, c3 rfl, q5, q6.imp id fun z => cd_use hG z⟩
  | invokevirtual idx =>
    simp only [Bool.and_eq_true, Bool.or_eq_true, List.isEmpty_iff] at hc
    obtain ⟨q1, q2, q3, q4, q5, q6⟩ := hc
    have hu0 : u ≠ 0 := by have := Nat.le_of_ble_eq_true q1; omega
    refine ⟨trivial, fun hlt => ?_, trivial, fun _ => hu0⟩
    obtain ⟨c1, c2, -, c4, -⟩ := cd_callee (args := args) (y := y) hG hu0 (Nat.eq_of_beq_eq_true q3) (by decide) q4
    exact ⟨c1, c2, (c4 rfl).1, (c4 rfl).2.1, (c4 rfl).2.2, q5, q6.imp id fun z => cd_use hG z⟩
  | ireturn =>
    dsimp only at hc
    refine ⟨trivial, trivial, ?_, fun z => by cases z⟩
    intro z
    rw [z] at hc
    cases hc
  | areturn =>
    dsimp only at hc
    refine ⟨trivial, trivial, ?_, fun z => by cases z⟩
    intro z
    rw [z] at hc
    cases hc
  | return_ => exact ⟨trivial, trivial, Option.isNone_iff_eq_none.mp hc, fun z => by cases z⟩
  | _ => exact ⟨trivial, trivial, trivial, fun z => by cases z⟩
end CDR
theorem cd_I_lt {y pc : Nat} {x : Instr × Nat × Nat} (h : cd_I y pc = some x) : y < 162 := by
  obtain ⟨i, u, v⟩ := x
  obtain ⟨ps, hm⟩ := cd_I_mem h
  by_cases h1 : y < 162
  · exact h1
  · exfalso
    rw [List.getD_eq_getElem?_getD, List.getElem?_eq_none (by show 162 ≤ y; omega)] at hm
    cases hm
set_option maxRecDepth 100000 in
theorem cd_plain : (List.range 162).all (fun y => plainName (cd_yn y).cls) = true := by decide +kernel
set_option maxRecDepth 100000 in
theorem cd_hk : (List.range 162).all (fun y => (cd_hs y).all (fun h => Nat.ble 1 h.1.2.2.2 && (decide (Cond.classLink (cd_yn y).cls h.1.2.2.2 (cd_nm h.2) ∈ lw_tbl) && decide (h.2 = 12 ∨ h.2 = 13)))) = true := by decide +kernel
set_option maxRecDepth 100000 in
theorem cd_self : Cond.castable "java/lang/IllegalArgumentException" "java/lang/IllegalArgumentException" ∈ lw_tbl ∧ Cond.castable "java/lang/IllegalStateException" "java/lang/IllegalStateException" ∈ lw_tbl := by decide +kernel
theorem cd_selfA {s : State} {C : String} (h : va_Nw (.castable C C) s) {i j : ClassId} (hi : s.vm.findClass C = some i) (hj : s.vm.findClass C = some j) : s.vm.assignable i j = true := by
  cases hi.symm.trans hj
  have h1 : (Cond.castable C C).before #[] s = true := h
  simpa [Cond.before, Cond.holds, Cond.value, hi] using h1
theorem cd_thr {y pc u v : Nat} {i : Instr} (h : cd_I y pc = some (i, u, v)) (hk : am_kind i u = 3) : ∃ idx, i = .new idx ∧ cd_hs y = [] ∧ cd_ns u = 6 ∧ (∃ r : vw_C, cd_cl[u]? = some r ∧ r.2.2 = 0 ∧ ((cd_yn y).cls, v, r.1) ∈ cd_tl) ∧ am_dec (cd_bt y) pc (.new idx) ∧ am_dec (cd_bt y) (pc + 3) .dup ∧ am_dec (cd_bt y) (pc + 4) (.invokespecial v) ∧ am_dec (cd_bt y) (pc + 7) .athrow := by
  obtain ⟨ps, hm⟩ := cd_I_mem h
  have hc := List.all_eq_true.mp (cd_k y) _ hm
  unfold cd_chk at hc
  rw [Bool.and_eq_true] at hc
  obtain ⟨hd, hc⟩ := hc
  dsimp only at hc
  cases i with
  | new idx =>
    dsimp only at hc
    have h12 : 12 ≤ u := by
      dsimp only [am_kind] at hk
      split at hk
      · assumption
      · cases hk
    split at hc
    · next r hr =>
      rw [show Nat.ble 12 u = true from Nat.ble_eq.mpr h12] at hc
      dsimp only [cond_true] at hc
      simp only [Bool.and_eq_true, List.isEmpty_iff, decide_eq_true_eq] at hc
      obtain ⟨-, -, -, q1, q2, q3, q4, q5, q6, q7⟩ := hc
      exact ⟨idx, rfl, q1, Nat.eq_of_beq_eq_true q2, ⟨r, hr, Nat.eq_of_beq_eq_true q3, q7⟩, am_decb_ok hd, am_decb_ok q4, am_decb_ok q5, am_decb_ok q6⟩
    · cases hc
  | invokespecial idx =>
    dsimp only [am_kind] at hk
    split at hk <;> cases hk
  | _ => cases hk
theorem cd_good (cs : Nat → Value) (b0 : Nat) : am_good cd_t cs cd_cl b0 cd_yn cd_bt cd_rtt cd_ws (cd_GL cs b0) := by
  refine ⟨fun k r h => cd_cls_nm h, cd_mv cs b0, fun y pc x h => ?_, fun y pc i u v h s args meth hG hts hmn => ?_, fun y pc i u v h hk => ?_, fun y pc i u v h hk => ?_, fun y h hh => ?_⟩
  · have hy := cd_I_lt h
    refine ⟨by omega, fun h0 => ⟨[], ?_⟩, List.all_eq_true.mp cd_plain y (List.mem_range.mpr hy), fun ty ht => ?_⟩
    · unfold cd_ws
      rw [if_neg h0]
    · show (cd_rtt y).getD .int = ty
      rw [ht]
      rfl
  · obtain ⟨a1, a2, a3, a4, -⟩ := cd_row (args := args) h hG hmn
    exact ⟨a1, a2, a3, a4⟩
  · obtain ⟨ps, hm⟩ := cd_I_mem h
    have hc := List.all_eq_true.mp (cd_k y) _ hm
    unfold cd_chk at hc
    rw [Bool.and_eq_true] at hc
    obtain ⟨-, hc⟩ := hc
    dsimp only at hc
    cases i with
    | invokespecial idx =>
      by_cases h1 : u = 1000
      · rw [h1]; decide
      · rw [show Nat.beq u 1000 = false from Bool.eq_false_iff.mpr fun z => h1 (Nat.eq_of_beq_eq_true z)] at hc
        dsimp only [cond_false] at hc
        rw [Bool.and_eq_true] at hc
        have := Nat.le_of_ble_eq_true hc.1
        omega
    | invokestatic idx =>
      by_cases hb : 1000 < u
      · omega
      · rw [show Nat.blt 1000 u = false from Bool.eq_false_iff.mpr fun z => hb (Nat.le_of_ble_eq_true z)] at hc
        dsimp only [cond_false] at hc
        rw [Bool.and_eq_true] at hc
        have := Nat.le_of_ble_eq_true hc.1
        omega
    | invokevirtual idx =>
      rw [Bool.and_eq_true] at hc
      have := Nat.le_of_ble_eq_true hc.1
      omega
    | new idx =>
      dsimp only [am_kind] at hk
      split at hk <;> cases hk
    | _ => cases hk
  · obtain ⟨idx, rfl, hh, h6, ⟨⟨C, T, N⟩, hr, hN, htl⟩, d0, d3, d4, d7⟩ := cd_thr h hk
    have hN : N = 0 := hN
    subst hN
    have hC : C = cd_nm u := cd_cls_nm hr
    subst hC
    refine ⟨idx, T, rfl, hh, h6, hr, fun s args hG => ?_⟩
    obtain ⟨f1, f2⟩ := cd_useT (args := args) hG htl
    obtain ⟨ps, hm⟩ := cd_I_mem h
    have hc := List.all_eq_true.mp (cd_k y) _ hm
    unfold cd_chk at hc
    rw [Bool.and_eq_true] at hc
    obtain ⟨-, hc⟩ := hc
    dsimp only at hc
    rw [hr] at hc
    dsimp only at hc
    rw [Bool.and_eq_true, Bool.and_eq_true, Bool.and_eq_true] at hc
    exact ⟨am_dec1 d0 rfl, am_dec1 d3 rfl, am_dec1 d4 rfl, am_dec1 d7 rfl, cd_use hG hc.1, cd_use hG hc.2.2.1, f1, f2⟩
  · have hy : y < 162 := by
      by_cases h1 : y < 162
      · exact h1
      · exfalso
        have h9 : h ∈ cd_hsL.getD y [] := hh
        rw [List.getD_eq_getElem?_getD, List.getElem?_eq_none (by show 162 ≤ y; omega)] at h9
        cases h9
    have h1 := List.all_eq_true.mp (List.all_eq_true.mp cd_hk y (List.mem_range.mpr hy)) h hh
    rw [Bool.and_eq_true, Bool.and_eq_true, decide_eq_true_eq, decide_eq_true_eq] at h1
    obtain ⟨g1, g2, g3⟩ := h1
    refine ⟨by have := Nat.le_of_ble_eq_true g1; omega, ?_, fun s args hG => ⟨hG.1 _ g2 rfl args, fun c r h12 hr i j hi hj => ?_⟩⟩
    · rcases g3 with e | e <;> rw [e] <;> exact ⟨_, rfl⟩
    · have hc : c = 12 ∨ c = 13 := by
        have : c < 14 := (List.getElem?_eq_some_iff.mp hr).1
        omega
      have hA := hG.2.1 _ cd_self.1 rfl
      have hS := hG.2.1 _ cd_self.2 rfl
      rcases hc with rfl | rfl <;> rcases g3 with e | e <;> rw [e] at hj ⊢
      · rw [cd_selfA hA hi hj]; rfl
      · rw [(hG.2.2.2.2.2.2 j i hj hi).2]; rfl
      · rw [(hG.2.2.2.2.2.2 i j hi hj).1]; rfl
      · rw [cd_selfA hS hi hj]; rfl
/-- the library's members -/
theorem cd_bok (cs : Nat → Value) (b0 : Nat) (D : va_G) (l : Launch) : am_bok cd_t cs D cd_cl b0 cd_yn cd_bt cd_ws (cd_GL cs b0) l := by
  intro d y pc lv σ σ1 top sl res i u v as rest r hI hu hd0 hcall hbi hsum p e R s m args below meth c Q c0 s0 hcx hm1 hm2 k
  obtain ⟨hx, hb, hml, hown, hts, hgl, hmn, hfr, hlo, hr1, hr2, htab, hlk⟩ := hcx
  obtain ⟨ps, hm⟩ := cd_I_mem hI
  have hc := List.all_eq_true.mp (cd_k y) _ hm
  unfold cd_chk at hc
  rw [Bool.and_eq_true] at hc
  obtain ⟨hd, hc⟩ := hc
  have hdec := am_decb_ok hd
  dsimp only at hc
  cases i with
  | invokestatic idx =>
    rw [show Nat.blt 1000 u = true from Nat.ble_eq.mpr hu] at hc
    dsimp only [cond_true] at hc
    by_cases h3 : u = 1003
    · subst h3
      have hc : (Nat.beq v 2 && (cd_w (ps.getD 0 0) (.methodLink (cd_yn y).cls idx Lib.Math.min.name) && (cd_w (ps.getD 1 0) (.static Lib.Math.min.name) && (cd_w (ps.getD 2 0) (.initialized "java/lang/Math") && cd_w (ps.getD 3 0) (.code Lib.Math.min.name Lib.Math.min.code 2 (some .int)))))) = true := hc
      simp only [Bool.and_eq_true] at hc
      obtain ⟨-, q1, q2, q3, q4⟩ := hc
      unfold am_bi at hbi
      split at hbi
      · next x1 y1 =>
        cases hbi
        exact am_w_min hx hb hml hown (cd_use hgl q1) (cd_use hgl q2) (cd_use hgl q3) (cd_use hgl q4) (am_dec1 hdec rfl) (by omega) hsum (by omega) (Nat.le_trans hm1 hr1) (Nat.le_trans hm2 hr2) k
      · omega
      · cases hbi
    · rw [show Nat.beq u 1003 = false from Bool.eq_false_iff.mpr fun z => h3 (Nat.eq_of_beq_eq_true z)] at hc
      dsimp only [cond_false] at hc
      simp only [Bool.and_eq_true] at hc
      obtain ⟨q0, -, q1, q2, q3, q4⟩ := hc
      obtain rfl : u = 1004 := Nat.eq_of_beq_eq_true q0
      have hnw : nativeFrameWords "java/lang/System" "arraycopy" 5 ≤ 45 := by decide +kernel
      unfold am_bi at hbi
      split at hbi
      · omega
      · next a sp b dp n _ =>
        split at hbi
        · next n0 f n1 g ha hb' =>
          split at hbi
          · cases hbi
          · next hcnd =>
            cases hbi
            exact am_w_copy hx hb hml hown (cd_use hgl q1) (cd_use hgl q2) (cd_use hgl q3) (cd_use hgl q4) (am_dec1 hdec rfl) (by omega) hsum (by omega) ha hb' (fun z => hcnd (Or.inl z)) (fun z => hcnd (Or.inr (Or.inl z))) (fun z => hcnd (Or.inr (Or.inr (Or.inl z)))) (by have := fun z => hcnd (Or.inr (Or.inr (Or.inr (Or.inl z)))); omega) (by have := fun z => hcnd (Or.inr (Or.inr (Or.inr (Or.inr z)))); omega) k
        · cases hbi
      · cases hbi
  | invokespecial idx =>
    rw [show Nat.beq u 1000 = false from Bool.eq_false_iff.mpr fun z => by have := Nat.eq_of_beq_eq_true z; omega] at hc
    dsimp only [cond_false] at hc
    simp only [Bool.and_eq_true] at hc
    have := Nat.le_of_ble_eq_true hc.2.1
    omega
  | invokevirtual idx =>
    simp only [Bool.and_eq_true] at hc
    have := Nat.le_of_ble_eq_true hc.2.1
    omega
  | _ => exact absurd (show (none : Option (List Value × List Value)) = some (as, rest) from hcall) (fun z => by cases z)
