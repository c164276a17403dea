section RMB
variable {cs : Nat → Value} {d b : Nat} {ad : Nat → Nat} {lo : Nat} {dec : Nat → Option Dec} {pl : Int32} {da : Nat → Nat} {ea : Nat → Nat → Nat} {txt : List Nat} {a c : Nat} {par : Option Nat} {rk : Nat → Nat}
theorem x_members_loop (hd : 6 < d) (hcs : csOk cs ad) (hT : ∀ c ∈ txt, cok c) (hb : b + 114 ≤ lo) (hO : catOk dec) (hr : ranked dec rk) (hc : c < 10) (hpar : ∀ p, par = some p → ∃ D, dec p = some D) :
    ∀ (n i : Nat) (σ : am_H) (top sl p : Nat) (ms : List Mem) (ea' : Nat → Nat), i + n = 6 → ms.length = i → csS cs σ b → σ (b + 9) = some (.inr (.inl (5, [.ref (b + 1), .ref (b + 3)]))) → X_buf σ b txt p → p ≤ txt.length → lo ≤ top → X_cat ad σ b lo dec pl da ea → decAt ad σ lo top a c (par.map da) ms ea' → (∀ M ∈ ms, memOk M) → distM ms → injN ea' ms.length →
    ∃ (σ' : am_H) (p' top' sl' : Nat) (ms' : List Mem) (ea'' : Nat → Nat), am_to cd_t cs d 37 16 [some (.ref (b + 9)), some (.ref a), some (.int (ii i))] [] σ top sl (.inl (some (.int (b2i (pMs dec par c txt n p ms).isSome))), σ', top', sl') ∧ X_buf σ' b txt p' ∧ p' ≤ txt.length ∧ top ≤ top' ∧ top' ≤ top + 2 * n ∧ sl' ≤ sl + 9 * n ∧ (∀ x, x ≠ b + 1 → x < lo → σ' x = σ x) ∧ (∀ R, pMs dec par c txt n p ms = some R → R = (ms', p') ∧ decAt ad σ' lo top' a c (par.map da) ms' ea'' ∧ (∀ M ∈ ms', memOk M) ∧ distM ms' ∧ injN ea'' ms'.length) := by
  intro n
  induction n with
  | zero =>
    intro i σ top sl p ms ea' hi hm hS hR hB hp hlo hC hA hms hdist hinj
    refine ⟨σ, p, top, sl, ms, ea', ?_, hB, hp, Nat.le_refl _, by omega, by omega, fun _ _ _ => rfl, (fun R hR => by cases hR)⟩
    refine x_n cd_i37_16 rfl rfl ?_
    refine x_bi cd_i37_17 (z := ii 6) (by decide) ?_
    show am_to cd_t _ _ 37 19 _ _ _ _ _ _
    refine x_icmp_t cd_i37_19 ((ii_le (by decide) (by omega)).mpr (by omega)) ?_
    refine x_ic cd_i37_60 (z := ii 0) rfl ?_
    show am_to cd_t _ _ 37 61 _ _ _ _ _ _
    exact x_end cd_i37_61 rfl rfl rfl
  | succ n ih =>
    intro i σ top sl p ms ea' hi hm hS hR hB hp hlo hC hA hms hdist hinj
    obtain ⟨s1, p1, top1, sl1, k1, k2, k3, k4, k5, k6, k7⟩ := x_readMember (cs := cs) (d := d - 1) (top := top) (sl := sl) (by omega) hcs hS hR hB hT hp hb hlo hC hO hr hA hc hms hdist hpar (by omega)
    have r1 := (k6 (b + 9) (by omega) (by omega)).trans hR
    have go : ∀ z : Int32, am_to cd_t cs (d - 1) 38 0 (am_ent 4 [.ref (b + 9), .ref a]) [] σ top sl (.inl (some (.int z)), s1, top1, sl1) → ∀ res, am_to cd_t cs d 37 27 [some (.ref (b + 9)), some (.ref a), some (.int (ii i))] [.int z] s1 top1 sl1 res → am_to cd_t cs d 37 16 [some (.ref (b + 9)), some (.ref a), some (.int (ii i))] [] σ top sl res := by
      intro z hz res hh
      refine x_n cd_i37_16 rfl rfl ?_
      refine x_bi cd_i37_17 (z := ii 6) (by decide) ?_
      show am_to cd_t _ _ 37 19 _ _ _ _ _ _
      refine x_icmp_f cd_i37_19 (fun z => by have := (ii_le (by decide) (by omega)).mp (show ii 6 ≤ ii i from z); omega) ?_
      refine x_n cd_i37_22 rfl rfl ?_
      refine x_n cd_i37_23 rfl rfl ?_
      show am_to cd_t _ _ 37 24 _ _ _ _ _ _
      refine x_callv (as' := [.ref a]) cd_i37_24 hR (by omega) rfl rfl rfl rfl rfl rfl hz ?_
      exact hh
    rcases k7 with ⟨l1, l2⟩ | ⟨M, l1, l2, l3, l4⟩
    · have en : pMs dec par c txt (n + 1) p ms = none := by
        unfold pMs
        cases hP : pMem txt p c with
        | none => rfl
        | some R =>
          dsimp only
          rw [if_neg (by rw [l2 R hP]; decide)]
      rw [en]
      refine ⟨s1, p1, top1, sl1, ms, ea', go _ l1 _ ?_, k1, k2, k3, by omega, by omega, k6, (fun R hR => by cases hR)⟩
      refine x_if_f cd_i37_27 (fun z => z rfl) ?_
      refine x_ic cd_i37_30 (z := ii 0) rfl ?_
      show am_to cd_t _ _ 37 31 _ _ _ _ _ _
      exact x_end cd_i37_31 rfl rfl rfl
    · have eu : pMs dec par c txt (n + 1) p ms = (if txt.getD p1 0 = 59 then pMs dec par c txt n (p1 + 1) (ms ++ [M]) else if txt.getD p1 0 = 125 then some (ms ++ [M], p1 + 1) else none) := by
        rw [pMs, l2]
        dsimp only
        rw [if_pos l3]
      rw [eu]
      obtain ⟨s2, e1, e2, e3⟩ := x_take (cs := cs) (d := d - 1) (top := top1) (sl := sl1) (c := 59) (by omega) k1 hT k2 (by decide) (by decide)
      have f2 : ∀ x, x ≠ b + 1 → x < lo → s2 x = σ x := fun x g1 g2 => (e3 x g1).trans (k6 x g1 g2)
      have r2 := (f2 (b + 9) (by omega) (by omega)).trans hR
      have A2 : decAt ad s2 lo top1 a c (par.map da) (ms ++ [M]) (upN ea' ms.length top) := l4.kept (fun q g1 g2 => e3 q (by omega)) (Nat.le_refl _)
      have el : (ms ++ [M]).length = ms.length + 1 := List.length_append
      have hMok : ∀ M' ∈ ms ++ [M], memOk M' := by
        intro M' h
        rcases List.mem_append.mp h with h | h
        · exact hms M' h
        · rw [List.mem_singleton.mp h]
          exact (pMem_some hc l2).1
      have hD' : distM (ms ++ [M]) := by
        refine dist_app hdist ?_
        unfold okM at l3
        rw [Bool.and_eq_true] at l3
        exact l3.1
      have hI' : injN (upN ea' ms.length top) (ms ++ [M]).length := by
        rw [el]
        obtain ⟨q1, q2, qr, qg, q3, q4, q5, q6, q7, q8⟩ := hA
        exact hinj.app (fun i hi => (q8 i hi).2.2.1)
      have go2 : ∀ z : Int32, am_to cd_t cs (d - 1) 34 0 (am_ent 2 [.ref (b + 1), .int (ii 59)]) [] s1 top1 sl1 (.inl (some (.int z)), s2, top1, sl1) → ∀ res, am_to cd_t cs d 37 41 [some (.ref (b + 9)), some (.ref a), some (.int (ii i))] [.int z] s2 top1 sl1 res → am_to cd_t cs d 37 16 [some (.ref (b + 9)), some (.ref a), some (.int (ii i))] [] σ top sl res := by
        intro z hz res hh
        refine go _ l1 res (x_if_t cd_i37_27 (fun z => absurd (show (1 : Int32) = 0 from z) (by decide)) ?_)
        refine x_n cd_i37_32 rfl rfl ?_
        refine x_getf cd_i37_33 (by assumption) rfl rfl ?_
        refine x_bi cd_i37_36 (z := ii 59) (by decide) ?_
        show am_to cd_t _ _ 37 38 _ _ _ _ _ _
        refine x_callv (as' := [.int (ii 59)]) cd_i37_38 k1.1 (by omega) rfl rfl rfl rfl rfl rfl hz ?_
        exact hh
      by_cases h59 : txt.getD p1 0 = 59
      · have hlt := getD_lt h59 (by decide)
        rw [if_pos h59] at e1 e2
        rw [if_pos h59]
        have S2 : csS cs s2 b := hS.kept (fun q hq => f2 q (by omega) (by omega))
        have C2 : X_cat ad s2 b lo dec pl da ea := hC.kept (f2 _ (by omega) (by omega)) (f2 _ (by omega) (by omega)) (f2 _ (by omega) (by omega)) (fun q g1 g2 => f2 q (by omega) (by omega)) (Nat.le_refl _)
        obtain ⟨s3, p3, top3, sl3, ms3, ea3, t1, t2, t3, t4, t5, t6, t7, t8⟩ := ih (i + 1) s2 top1 sl1 (p1 + 1) (ms ++ [M]) (upN ea' ms.length top) (by omega) (by omega) S2 r2 e2 (by omega) (by omega) C2 A2 hMok hD' hI'
        refine ⟨s3, p3, top3, sl3, ms3, ea3, go2 _ e1 _ ?_, t2, t3, by omega, by omega, by omega, fun x g1 g2 => (t7 x g1 g2).trans (f2 x g1 g2), t8⟩
        refine x_if_t cd_i37_41 (fun z => absurd (show (1 : Int32) = 0 from z) (by decide)) ?_
        refine x_iinc cd_i37_54 rfl (ii_add _ 1) rfl ?_
        refine x_n cd_i37_57 rfl rfl ?_
        show am_to cd_t _ _ 37 16 _ _ _ _ _ _
        exact t1
      · rw [if_neg h59] at e1 e2
        rw [if_neg h59]
        obtain ⟨s3, o1, o2, o3⟩ := x_take (cs := cs) (d := d - 1) (top := top1) (sl := sl1) (c := 125) (by omega) e2 hT k2 (by decide) (by decide)
        have fin : ∀ z : Int32, am_to cd_t cs (d - 1) 34 0 (am_ent 2 [.ref (b + 1), .int (ii 125)]) [] s2 top1 sl1 (.inl (some (.int z)), s3, top1, sl1) → (z = 0 ∨ z = 1) → am_to cd_t cs d 37 16 [some (.ref (b + 9)), some (.ref a), some (.int (ii i))] [] σ top sl (.inl (some (.int z)), s3, top1, sl1) := by
          intro z hz hz2
          refine go2 _ e1 _ (x_if_f cd_i37_41 (fun z => z rfl) ?_)
          refine x_n cd_i37_44 rfl rfl ?_
          refine x_getf cd_i37_45 (by assumption) rfl rfl ?_
          refine x_bi cd_i37_48 (z := ii 125) (by decide) ?_
          show am_to cd_t _ _ 37 50 _ _ _ _ _ _
          refine x_callv (as' := [.int (ii 125)]) cd_i37_50 e2.1 (by omega) rfl rfl rfl rfl rfl rfl hz ?_
          rcases hz2 with rfl | rfl <;> exact x_end cd_i37_53 rfl rfl rfl
        have f3 : ∀ x, x ≠ b + 1 → x < lo → s3 x = σ x := fun x g1 g2 => (o3 x g1).trans (f2 x g1 g2)
        by_cases h125 : txt.getD p1 0 = 125
        · have hlt := getD_lt h125 (by decide)
          rw [if_pos h125] at o1 o2
          rw [if_pos h125]
          refine ⟨s3, p1 + 1, top1, sl1, ms ++ [M], upN ea' ms.length top, fin _ o1 (Or.inr rfl), o2, by omega, k3, by omega, by omega, f3, fun R hR => ⟨(Option.some.inj hR).symm, A2.kept (fun q g1 g2 => o3 q (by omega)) (Nat.le_refl _), hMok, hD', hI'⟩⟩
        · rw [if_neg h125] at o1 o2
          rw [if_neg h125]
          exact ⟨s3, p1, top1, sl1, ms, ea', fin _ o1 (Or.inl rfl), o2, k2, k3, by omega, by omega, f3, (fun R hR => by cases hR)⟩
theorem x_readMembers {σ : am_H} {top sl p : Nat} {ea' : Nat → Nat} (hd : 6 < d) (hcs : csOk cs ad) (hT : ∀ c ∈ txt, cok c) (hb : b + 114 ≤ lo) (hO : catOk dec) (hr : ranked dec rk) (hc : c < 10) (hpar : ∀ p, par = some p → ∃ D, dec p = some D) (hS : csS cs σ b) (hR : σ (b + 9) = some (.inr (.inl (5, [.ref (b + 1), .ref (b + 3)])))) (hB : X_buf σ b txt p) (hp : p ≤ txt.length) (hlo : lo ≤ top) (hC : X_cat ad σ b lo dec pl da ea) (hA : decAt ad σ lo top a c (par.map da) [] ea') :
    ∃ (σ' : am_H) (p' top' sl' : Nat) (ms' : List Mem) (ea'' : Nat → Nat), am_to cd_t cs d 37 0 (am_ent 3 [.ref (b + 9), .ref a]) [] σ top sl (.inl (some (.int (b2i (pMbs dec par c txt p).isSome))), σ', top', sl') ∧ X_buf σ' b txt p' ∧ p' ≤ txt.length ∧ top ≤ top' ∧ top' ≤ top + 12 ∧ sl' ≤ sl + 54 ∧ (∀ x, x ≠ b + 1 → x < lo → σ' x = σ x) ∧ (∀ R, pMbs dec par c txt p = some R → R = (ms', p') ∧ decAt ad σ' lo top' a c (par.map da) ms' ea'' ∧ (∀ M ∈ ms', memOk M) ∧ distM ms' ∧ injN ea'' ms'.length) := by
  have n0 : ∀ M ∈ ([] : List Mem), memOk M := fun M h => by cases h
  have n1 : distM [] := fun i j hi => absurd hi (Nat.not_lt_zero i)
  have n2 : injN ea' ([] : List Mem).length := fun i j hi => absurd hi (Nat.not_lt_zero i)
  obtain ⟨s1, a1, a2, a3⟩ := x_take (cs := cs) (d := d - 1) (top := top) (sl := sl) (c := 125) (by omega) hB hT hp (by decide) (by decide)
  have A1 : decAt ad s1 lo top a c (par.map da) [] ea' := hA.kept (fun q g1 g2 => a3 q (by omega)) (Nat.le_refl _)
  have r1 := (a3 (b + 9) (by omega)).trans hR
  have go : ∀ z : Int32, am_to cd_t cs (d - 1) 34 0 (am_ent 2 [.ref (b + 1), .int (ii 125)]) [] σ top sl (.inl (some (.int z)), s1, top, sl) → ∀ res, am_to cd_t cs d 37 9 [some (.ref (b + 9)), some (.ref a), none] [.int z] s1 top sl res → am_to cd_t cs d 37 0 (am_ent 3 [.ref (b + 9), .ref a]) [] σ top sl res := by
    intro z hz res hh
    refine x_n cd_i37_0 rfl rfl ?_
    refine x_getf cd_i37_1 (by assumption) rfl rfl ?_
    refine x_bi cd_i37_4 (z := ii 125) (by decide) ?_
    show am_to cd_t _ _ 37 6 _ _ _ _ _ _
    refine x_callv (as' := [.int (ii 125)]) cd_i37_6 hB.1 (by omega) rfl rfl rfl rfl rfl rfl hz ?_
    exact hh
  unfold pMbs
  by_cases hc1 : txt.getD p 0 = 125
  · have hlt := getD_lt hc1 (by decide)
    rw [if_pos hc1] at a1 a2
    rw [if_pos hc1]
    refine ⟨s1, p + 1, top, sl, [], ea', go _ a1 _ ?_, a2, by omega, Nat.le_refl _, by omega, by omega, fun x g1 _ => a3 x g1, fun R hR => ⟨(Option.some.inj hR).symm, A1, n0, n1, n2⟩⟩
    refine x_if_f cd_i37_9 (fun z => absurd (show (1 : Int32) = 0 from z) (by decide)) ?_
    refine x_ic cd_i37_12 (z := ii 1) rfl ?_
    show am_to cd_t _ _ 37 13 _ _ _ _ _ _
    exact x_end cd_i37_13 rfl rfl rfl
  · rw [if_neg hc1] at a1 a2
    rw [if_neg hc1]
    have S1 : csS cs s1 b := hS.kept (fun q hq => a3 q (by omega))
    have C1 : X_cat ad s1 b lo dec pl da ea := hC.kept (a3 _ (by omega)) (a3 _ (by omega)) (a3 _ (by omega)) (fun q g1 g2 => a3 q (by omega)) (Nat.le_refl _)
    obtain ⟨s3, p3, top3, sl3, ms3, ea3, t1, t2, t3, t4, t5, t6, t7, t8⟩ := x_members_loop (cs := cs) (d := d) (a := a) hd hcs hT hb hO hr hc hpar 6 0 s1 top sl p [] ea' (by omega) rfl S1 r1 a2 hp hlo C1 A1 n0 n1 n2
    refine ⟨s3, p3, top3, sl3, ms3, ea3, go _ a1 _ ?_, t2, t3, t4, by omega, by omega, fun x g1 g2 => (t7 x g1 g2).trans (a3 x g1), t8⟩
    refine x_if_t cd_i37_9 rfl ?_
    refine x_ic cd_i37_14 (z := ii 0) rfl ?_
    refine x_n cd_i37_15 rfl rfl ?_
    try dsimp only [List.set]
    show am_to cd_t _ _ 37 16 _ _ _ _ _ _
    exact t1
/-- the head of a declaration: its class, what it is below, the place behind the brace -/
def pHd (dec : Nat → Option Dec) (txt : List Nat) : Option (Nat × Option Nat × Nat) := match (tkC txt 0).1 with
  | none => none
  | some c => if txt.getD 1 0 = 58 then (match (tkC txt 2).1 with
      | none => none
      | some q => if (dec q).isSome = true then (if txt.getD 3 0 = 123 then some (c, some q, 4) else none) else none)
    else if txt.getD 1 0 = 123 then some (c, none, 2) else none
theorem x_decInit {σ : am_H} {top sl e c : Nat} {par : Option Nat} (hd : 0 < d) (he : e < top) (h : σ e = some (.inr (.inl (4, [.int 0, .null, .null, .int 0])))) :
    ∃ σ', am_to cd_t cs d 36 0 (am_ent 3 [.ref e, .int (ii c), va_rf par]) [] σ top sl (.inl none, σ', top + 1, sl + 6) ∧ σ' e = some (.inr (.inl (4, [.int (ii c), va_rf par, .ref top, .int 0]))) ∧ σ' top = some (.inl (.object "ChainDesk$Member", 6, .inr (.inr (.inr (.inr fun _ => none))))) ∧ ∀ x, x ≠ e → x ≠ top → σ' x = σ x := by
  obtain ⟨s0, hs0⟩ : ∃ z, z = am_up σ top (.inl (.object "ChainDesk$Member", 6, .inr (.inr (.inr (.inr fun _ => none))))) := ⟨_, rfl⟩
  have h0 : s0 e = some (.inr (.inl (4, [.int 0, .null, .null, .int 0]))) := by rw [hs0, am_up_ne _ _ (by omega)]; exact h
  have t0 : s0 top = some (.inl (.object "ChainDesk$Member", 6, .inr (.inr (.inr (.inr fun _ => none))))) := by rw [hs0]; exact am_up_self _ _ _
  obtain ⟨s1, hs1⟩ : ∃ z, z = am_up s0 e (.inr (.inl (4, [.int 0, .null, .ref top, .int 0]))) := ⟨_, rfl⟩
  have h1 : s1 e = some (.inr (.inl (4, [.int 0, .null, .ref top, .int 0]))) := by rw [hs1]; exact am_up_self _ _ _
  obtain ⟨s2, hs2⟩ : ∃ z, z = am_up s1 e (.inr (.inl (4, [.int (ii c), .null, .ref top, .int 0]))) := ⟨_, rfl⟩
  have h2 : s2 e = some (.inr (.inl (4, [.int (ii c), .null, .ref top, .int 0]))) := by rw [hs2]; exact am_up_self _ _ _
  refine ⟨am_up s2 e (.inr (.inl (4, [.int (ii c), va_rf par, .ref top, .int 0]))), ?_, am_up_self _ _ _, ?_, fun x g1 g2 => ?_⟩
  · refine x_n cd_i36_0 rfl rfl ?_
    refine x_obj cd_i36_1 (by omega) rfl ?_
    refine x_n cd_i36_4 rfl rfl ?_
    refine x_bi cd_i36_5 (z := ii 6) (by decide) ?_
    show am_to cd_t _ _ 36 7 _ _ _ _ _ _
    refine x_newaa cd_i36_7 (n := 6) (by decide) ?_
    refine (show am_up σ top (.inl (.object (cd_nm 7), 6, .inr (.inr (.inr (.inr fun _ => none))))) = s0 from hs0.symm) ▸ ?_
    refine x_putf cd_i36_10 (fs' := [.int 0, .null, .ref top, .int 0]) h0 rfl rfl rfl ?_
    refine hs1 ▸ ?_
    refine x_n cd_i36_13 rfl rfl ?_
    refine x_n cd_i36_14 rfl rfl ?_
    show am_to cd_t _ _ 36 15 _ _ _ _ _ _
    refine x_putf cd_i36_15 (fs' := [.int (ii c), .null, .ref top, .int 0]) h1 rfl rfl rfl ?_
    refine hs2 ▸ ?_
    cases par with
    | none =>
      refine x_n cd_i36_18 rfl rfl ?_
      refine x_n cd_i36_19 rfl rfl ?_
      show am_to cd_t _ _ 36 20 _ _ _ _ _ _
      refine x_putf cd_i36_20 (fs' := [.int (ii c), .null, .ref top, .int 0]) h2 rfl rfl rfl ?_
      exact x_end cd_i36_23 rfl rfl rfl
    | some q =>
      refine x_n cd_i36_18 rfl rfl ?_
      refine x_n cd_i36_19 rfl rfl ?_
      show am_to cd_t _ _ 36 20 _ _ _ _ _ _
      refine x_putf cd_i36_20 (fs' := [.int (ii c), .ref q, .ref top, .int 0]) h2 rfl rfl rfl ?_
      exact x_end cd_i36_23 rfl rfl rfl
  · rw [am_up_ne _ _ (by omega), hs2, am_up_ne _ _ (by omega), hs1, am_up_ne _ _ (by omega)]
    exact t0
  · rw [am_up_ne _ _ g1, hs2, am_up_ne _ _ g1, hs1, am_up_ne _ _ g1, hs0, am_up_ne _ _ g2]
end RMB
