/-! the reference's run through an expression -/
/-- how an expression ends -/
def cOut (txt : List Nat) (dep k0 : Nat) (r : ERes) (z : Int32) (i' : Nat → Int32) : Prop := (r = none ∧ i' 4 = b2i false) ∨ ∃ t q k, r = some (t, q, k) ∧ t < 13 ∧ q ≤ txt.length ∧ z = ii t ∧ i' 4 = b2i true ∧ M_at i' q ∧ i' 33 = ii dep ∧ i' 36 = ii (k0 + k)
section SI
variable {cs : Nat → Value} {d m top sl : Nat} {dec : Nat → Option Dec} {pl : Int32} {rk : Nat → Nat} {vs : List (List Nat × Nat)} {txt : List Nat}
def SimE (cs : Nat → Value) (d m top sl : Nat) (dec : Nat → Option Dec) (pl : Int32) (vs : List (List Nat × Nat)) (txt : List Nat) (dep : Nat) (E : Nat → ERes) : Prop := ∀ (σ : am_H) (i : Nat → Int32) (a : Nat → Nat → Int32) (p k : Nat) (v1 : Option Value), mo σ m i a → MEnv dec pl vs txt i a → M_at i p → p ≤ txt.length → i 4 = b2i true → i 33 = ii dep → i 36 = ii k →
  ∃ (σ' : am_H) (i' : Nat → Int32) (a' : Nat → Nat → Int32) (z : Int32), mo σ' m i' a' ∧ CK dep i i' a a' ∧ cOut txt dep k (E p) z i' ∧ (∀ R, E p = some R → ¬ txt.getD R.2.1 0 = 46) ∧ (∀ x, x < m ∨ m + 25 ≤ x → σ' x = σ x) ∧ ∀ res, am_to cd_t cs d 146 25 [some (.ref m), some (.int z)] [] σ' top sl res → am_to cd_t cs d 146 60 [some (.ref m), v1] [.ref m] σ top sl res
/-- from the loop's head to the reading of an argument -/
theorem sim_head {σ : am_H} {i : Nat → Int32} {a : Nat → Nat → Int32} (hM : mo σ m i a) (hG : i 4 = b2i true) : ∀ res, am_to cd_t cs d 146 60 [some (.ref m), some (.int (-1))] [.ref m] σ top sl res → am_to cd_t cs d 146 25 [some (.ref m), some (.int (-1))] [] σ top sl res := by
  intro res hh
  refine x_n cd_i146_25 rfl rfl ?_
  show am_to cd_t _ _ 146 26 _ _ _ _ _ _
  refine x_getf cd_i146_26 hM.1 (congrArg (fun z => some (Value.int z)) (hG)) rfl ?_
  refine x_if_f cd_i146_29 (fun z => absurd (show (1 : Int32) = 0 from z) (by decide)) ?_
  refine x_n cd_i146_32 rfl rfl ?_
  refine x_ic cd_i146_33 (z := (-1)) rfl ?_
  show am_to cd_t _ _ 146 34 _ _ _ _ _ _
  refine x_icmp_t cd_i146_34 rfl ?_
  refine x_n cd_i146_54 rfl rfl ?_
  refine x_ic cd_i146_55 (z := (-1)) rfl ?_
  show am_to cd_t _ _ 146 56 _ _ _ _ _ _
  refine x_icmp_f cd_i146_56 (fun z => z rfl) ?_
  refine x_n cd_i146_59 rfl rfl ?_
  show am_to cd_t _ _ 146 60 _ _ _ _ _ _
  exact hh
theorem sim_args {E : Nat → ERes} {dep x j : Nat} {D : Dec} (hd : 6 < d) (hT : ∀ c ∈ txt, cok c) (hO : catOk dec) (hr : ranked dec rk) (hE : SimE cs d m top sl dec pl vs txt (dep + 1) E) (hdep : dep < 6) (hD : dec x = some D) (hj : j < D.2.length) :
    ∀ (ts : List Nat) (w kk : Nat) (σ : am_H) (i : Nat → Int32) (a : Nat → Nat → Int32) (q k : Nat), (D.2.getD j default).2.2.2.2.1.drop kk = w :: ts → mo σ m i a → MEnv dec pl vs txt i a → M_at i q → q ≤ txt.length → i 4 = b2i true → i 33 = ii (dep + 1) → i 36 = ii k → a 23 dep = ii (6 * x + j) → a 24 dep = ii kk →
    ∃ (σ' : am_H) (i' : Nat → Int32) (a' : Nat → Nat → Int32) (z : Int32), mo σ' m i' a' ∧ CK dep i i' a a' ∧ cOut txt dep k ((argsP dec txt E (w :: ts) true q).map (fun S => ((D.2.getD j default).2.2.2.2.2, S.1, S.2))) z i' ∧ (∀ x, x < m ∨ m + 25 ≤ x → σ' x = σ x) ∧ ∀ res, am_to cd_t cs d 146 25 [some (.ref m), some (.int z)] [] σ' top sl res → am_to cd_t cs d 146 25 [some (.ref m), some (.int (-1))] [] σ top sl res := by
  have hok := (hO x D hD).2.1 _ (getD_mem hj)
  intro ts
  induction ts with
  | nil =>
    intro w kk σ i a q k hdr hM hV hP hq hG hop hk h23 h24
    have hkk : kk + 1 = (D.2.getD j default).2.2.2.2.1.length := by
      have := congrArg List.length hdr
      rw [List.length_drop] at this
      have : (D.2.getD j default).2.2.2.2.1.length - kk = 1 := this
      omega
    have hwk : (D.2.getD j default).2.2.2.2.1.getD kk 0 = w := by
      have := congrArg (fun q => q.head?) hdr
      rw [List.head?_drop] at this
      rw [List.getD_eq_getElem?_getD, this]
      rfl
    obtain ⟨s1, i1, a1, z1, b1, b2, b3, b4, b5, b6⟩ := hE σ i a q k (some (.int (-1))) hM hV hP hq hG hop hk
    have ck1 : CK dep i i1 a a1 := ⟨b2.1, b2.2.1, fun e he => b2.2.2 e (by omega)⟩
    rw [argsP, if_pos (Or.inl rfl), if_pos rfl]
    rcases b3 with ⟨r1, r2⟩ | ⟨t, q1, k1, r1, r2, r3, r4, r5, r6, r7, r8⟩
    · rw [r1]
      exact ⟨s1, i1, a1, z1, b1, ck1, Or.inl ⟨rfl, r2⟩, b5, fun res hh => sim_head hM hG res (b6 res hh)⟩
    · have n46 := b4 _ r1
      rw [r1]
      dsimp only
      obtain ⟨s2, i2, z2, c, hc, c1, c2, c3, c36, c4, c5, c6, c7, c8⟩ := m_furtherArg (cs := cs) (d := d - 1) (top := top) (sl := sl) (dep := dep) (k := kk) (by omega) hT b1 (hV.ck b2) r6 r3 r5 r7 hdep hO hr r2 n46 hD hj ((b2.2.2 dep (by omega)).1.trans h23) ((b2.2.2 dep (by omega)).2.trans h24) (by omega)
      rw [if_neg (by omega)] at hc
      obtain ⟨y1, y2⟩ := c7 (by omega)
      rw [hwk, hc] at c4
      rw [hc] at c5
      have ck2 : CK dep i i2 a (updA a1 24 (upd (a1 24) dep (ii (kk + 1)))) := ck1.trans ⟨c3, fun k' h1 h2 => updA_ne h2, fun e he => ⟨by rw [updA_ne (by decide)], by rw [updA_eq, upd_ne (by omega)]⟩⟩ (Nat.le_refl _)
      have go : ∀ res, am_to cd_t cs d 146 25 [some (.ref m), some (.int z2)] [] s2 top sl res → am_to cd_t cs d 146 25 [some (.ref m), some (.int (-1))] [] σ top sl res := by
        intro res hh
        refine sim_head hM hG res (b6 res ?_)
        rw [r4]
        refine x_n cd_i146_25 rfl rfl ?_
        show am_to cd_t _ _ 146 26 _ _ _ _ _ _
        refine x_getf cd_i146_26 b1.1 (congrArg (fun z => some (Value.int z)) (r5)) rfl ?_
        refine x_if_f cd_i146_29 (fun z => absurd (show (1 : Int32) = 0 from z) (by decide)) ?_
        refine x_n cd_i146_32 rfl rfl ?_
        refine x_ic cd_i146_33 (z := (-1)) rfl ?_
        show am_to cd_t _ _ 146 34 _ _ _ _ _ _
        refine x_icmp_f cd_i146_34 (ii_ne1 (show t < 2147483648 by omega)) ?_
        refine x_n cd_i146_37 rfl rfl ?_
        show am_to cd_t _ _ 146 38 _ _ _ _ _ _
        refine x_getf cd_i146_38 b1.1 (congrArg (fun z => some (Value.int z)) (r7)) rfl ?_
        refine x_if_t cd_i146_41 (show (0 : Int32) < ii (dep + 1) from (ii_lt (a := 0) (by decide) (by omega)).mpr (by omega)) ?_
        refine x_n cd_i146_54 rfl rfl ?_
        refine x_ic cd_i146_55 (z := (-1)) rfl ?_
        show am_to cd_t _ _ 146 56 _ _ _ _ _ _
        refine x_icmp_t cd_i146_56 (ii_ne1 (show t < 2147483648 by omega)) ?_
        refine x_n cd_i146_66 rfl rfl ?_
        refine x_n cd_i146_67 rfl rfl ?_
        show am_to cd_t _ _ 146 68 _ _ _ _ _ _
        refine x_callv (as' := [.int (ii t)]) cd_i146_68 b1.1 (by omega) rfl rfl rfl rfl rfl rfl (c1) ?_
        refine x_n cd_i146_71 rfl rfl ?_
        try dsimp only [List.set]
        refine x_n cd_i146_72 rfl rfl ?_
        show am_to cd_t _ _ 146 25 _ _ _ _ _ _
        exact hh
      refine ⟨s2, i2, _, z2, c2, ck2, ?_, fun y hy => (c8 y hy).trans (b5 y hy), go⟩
      cases hf : fitB dec t w with
      | false =>
        rw [if_neg (by decide)]
        rw [hf, Bool.false_and] at c4
        exact Or.inl ⟨rfl, c4⟩
      | true =>
        rw [if_pos rfl, argsP]
        rw [hf, Bool.true_and] at c4
        by_cases h41 : txt.getD q1 0 = 41
        · have hlt := getD_lt h41 (by decide)
          rw [if_pos h41]
          rw [beq_iff_eq.mpr h41] at c4
          refine Or.inr ⟨(D.2.getD j default).2.2.2.2.2, q1 + 1, k1, rfl, hok.2.2.2.2.2.2.1, by omega, y1, c4, c5 h41, y2, c36.trans r8⟩
        · rw [if_neg h41]
          rw [beq_eq_false_iff_ne.mpr h41] at c4
          exact Or.inl ⟨rfl, c4⟩
  | cons w' ts ih =>
    intro w kk σ i a q k hdr hM hV hP hq hG hop hk h23 h24
    have hkk : kk + 1 < (D.2.getD j default).2.2.2.2.1.length := by
      have := congrArg List.length hdr
      rw [List.length_drop] at this
      have : (D.2.getD j default).2.2.2.2.1.length - kk = ts.length + 1 + 1 := this
      omega
    have hwk : (D.2.getD j default).2.2.2.2.1.getD kk 0 = w := by
      have := congrArg (fun q => q.head?) hdr
      rw [List.head?_drop] at this
      rw [List.getD_eq_getElem?_getD, this]
      rfl
    have hdr' : (D.2.getD j default).2.2.2.2.1.drop (kk + 1) = w' :: ts := by
      have := congrArg List.tail hdr
      rw [List.tail_drop] at this
      exact this
    obtain ⟨s1, i1, a1, z1, b1, b2, b3, b4, b5, b6⟩ := hE σ i a q k (some (.int (-1))) hM hV hP hq hG hop hk
    have ck1 : CK dep i i1 a a1 := ⟨b2.1, b2.2.1, fun e he => b2.2.2 e (by omega)⟩
    rw [argsP, if_pos (Or.inl rfl), if_pos rfl]
    rcases b3 with ⟨r1, r2⟩ | ⟨t, q1, k1, r1, r2, r3, r4, r5, r6, r7, r8⟩
    · rw [r1]
      exact ⟨s1, i1, a1, z1, b1, ck1, Or.inl ⟨rfl, r2⟩, b5, fun res hh => sim_head hM hG res (b6 res hh)⟩
    · have n46 := b4 _ r1
      rw [r1]
      dsimp only
      obtain ⟨s2, i2, z2, c, hc, c1, c2, c3, c36, c4, c5, c6, c7, c8⟩ := m_furtherArg (cs := cs) (d := d - 1) (top := top) (sl := sl) (dep := dep) (k := kk) (by omega) hT b1 (hV.ck b2) r6 r3 r5 r7 hdep hO hr r2 n46 hD hj ((b2.2.2 dep (by omega)).1.trans h23) ((b2.2.2 dep (by omega)).2.trans h24) (by omega)
      rw [if_pos hkk] at hc
      obtain ⟨y1, y2⟩ := c6 hkk
      rw [hwk, hc] at c4
      rw [hc] at c5
      have ck2 : CK dep i i2 a (updA a1 24 (upd (a1 24) dep (ii (kk + 1)))) := ck1.trans ⟨c3, fun k' h1 h2 => updA_ne h2, fun e he => ⟨by rw [updA_ne (by decide)], by rw [updA_eq, upd_ne (by omega)]⟩⟩ (Nat.le_refl _)
      have go : ∀ res, am_to cd_t cs d 146 25 [some (.ref m), some (.int z2)] [] s2 top sl res → am_to cd_t cs d 146 25 [some (.ref m), some (.int (-1))] [] σ top sl res := by
        intro res hh
        refine sim_head hM hG res (b6 res ?_)
        rw [r4]
        refine x_n cd_i146_25 rfl rfl ?_
        show am_to cd_t _ _ 146 26 _ _ _ _ _ _
        refine x_getf cd_i146_26 b1.1 (congrArg (fun z => some (Value.int z)) (r5)) rfl ?_
        refine x_if_f cd_i146_29 (fun z => absurd (show (1 : Int32) = 0 from z) (by decide)) ?_
        refine x_n cd_i146_32 rfl rfl ?_
        refine x_ic cd_i146_33 (z := (-1)) rfl ?_
        show am_to cd_t _ _ 146 34 _ _ _ _ _ _
        refine x_icmp_f cd_i146_34 (ii_ne1 (show t < 2147483648 by omega)) ?_
        refine x_n cd_i146_37 rfl rfl ?_
        show am_to cd_t _ _ 146 38 _ _ _ _ _ _
        refine x_getf cd_i146_38 b1.1 (congrArg (fun z => some (Value.int z)) (r7)) rfl ?_
        refine x_if_t cd_i146_41 (show (0 : Int32) < ii (dep + 1) from (ii_lt (a := 0) (by decide) (by omega)).mpr (by omega)) ?_
        refine x_n cd_i146_54 rfl rfl ?_
        refine x_ic cd_i146_55 (z := (-1)) rfl ?_
        show am_to cd_t _ _ 146 56 _ _ _ _ _ _
        refine x_icmp_t cd_i146_56 (ii_ne1 (show t < 2147483648 by omega)) ?_
        refine x_n cd_i146_66 rfl rfl ?_
        refine x_n cd_i146_67 rfl rfl ?_
        show am_to cd_t _ _ 146 68 _ _ _ _ _ _
        refine x_callv (as' := [.int (ii t)]) cd_i146_68 b1.1 (by omega) rfl rfl rfl rfl rfl rfl (c1) ?_
        refine x_n cd_i146_71 rfl rfl ?_
        try dsimp only [List.set]
        refine x_n cd_i146_72 rfl rfl ?_
        show am_to cd_t _ _ 146 25 _ _ _ _ _ _
        exact hh
      have f2 : ∀ y, y < m ∨ m + 25 ≤ y → s2 y = σ y := fun y hy => (c8 y hy).trans (b5 y hy)
      cases hf : fitB dec t w with
      | false =>
        rw [if_neg (by decide)]
        rw [hf, Bool.false_and] at c4
        exact ⟨s2, i2, _, z2, c2, ck2, Or.inl ⟨rfl, c4⟩, f2, go⟩
      | true =>
        rw [if_pos rfl]
        rw [hf, Bool.true_and] at c4
        by_cases h44 : txt.getD q1 0 = 44
        · have hlt := getD_lt h44 (by decide)
          rw [beq_iff_eq.mpr h44] at c4
          rw [y1] at go
          obtain ⟨s3, i3, a3, z3, d1, d2, d3, d4, d5⟩ := ih w' (kk + 1) s2 i2 _ (q1 + 1) (k + k1) hdr' c2 (hV.ck ck2) (c5 h44) (by omega) c4 y2 (c36.trans r8) (by rw [updA_ne (by decide)]; exact (b2.2.2 dep (by omega)).1.trans h23) (by rw [updA_eq, upd_eq])
          refine ⟨s3, i3, a3, z3, d1, ck2.trans d2 (Nat.le_refl _), ?_, fun y hy => (d4 y hy).trans (f2 y hy), fun res hh => go res (d5 res hh)⟩
          have ea : argsP dec txt E (w' :: ts) false q1 = argsP dec txt E (w' :: ts) true (q1 + 1) := by
            rw [argsP, argsP, if_pos (Or.inr h44), if_pos (Or.inl rfl), if_neg (by decide), if_pos rfl]
          rw [ea]
          rcases d3 with ⟨x1, x2⟩ | ⟨t', q', k', x1, x2, x3, x4, x5, x6, x7, x8⟩
          · refine Or.inl ⟨?_, x2⟩
            rw [Option.map_eq_none_iff] at x1
            rw [x1]
            rfl
          · obtain ⟨S, hS, e⟩ := Option.map_eq_some_iff.mp x1
            rw [hS]
            refine Or.inr ⟨t', q', k1 + k', ?_, x2, x3, x4, x5, x6, x7, by rw [← Nat.add_assoc]; exact x8⟩
            have e := Prod.mk.inj e
            have e2 := Prod.mk.inj e.2
            show some (_, S.1, k1 + S.2) = _
            rw [e.1, e2.1, e2.2]
        · rw [beq_eq_false_iff_ne.mpr h44] at c4
          refine ⟨s2, i2, _, z2, c2, ck2, Or.inl ⟨?_, c4⟩, f2, go⟩
          rw [argsP, if_neg (by rintro (h | h); cases h; exact h44 h)]
          rfl
theorem sim_use {n dep k0 : Nat} {F : (Nat → ERes) → ERes} {σ : am_H} {i : Nat → Int32} {a : Nat → Nat → Int32} {z : Int32} (hd : 6 < d) (hT : ∀ c ∈ txt, cok c) (hO : catOk dec) (hr : ranked dec rk) (hn : dep + 1 + n = 7) (hE : dep < 6 → SimE cs d m top sl dec pl vs txt (dep + 1) (exprP dec pl vs txt n)) (hM : mo σ m i a) (hV : MEnv dec pl vs txt i a) (hu : uOut dec txt dep k0 F z i a) :
    ∃ (σ' : am_H) (i' : Nat → Int32) (a' : Nat → Nat → Int32) (z' : Int32), mo σ' m i' a' ∧ CK dep i i' a a' ∧ cOut txt dep k0 (F (exprP dec pl vs txt n)) z' i' ∧ (∀ x, x < m ∨ m + 25 ≤ x → σ' x = σ x) ∧ ∀ res, am_to cd_t cs d 146 25 [some (.ref m), some (.int z')] [] σ' top sl res → am_to cd_t cs d 146 25 [some (.ref m), some (.int z)] [] σ top sl res := by
  rcases hu with ⟨h1, h2⟩ | ⟨t, q, k, h1, h2, h3, h4, h5, h6, h7, h8⟩ | ⟨x, j, D, q, h1, h2, h3, h4, h5, h6, h7, h8, h9, h10, h11, h12, h13⟩
  · refine ⟨σ, i, a, z, hM, CK.refl i a, Or.inl ⟨h1 _ (fun h6 q => ?_), h2⟩, fun _ _ => rfl, fun res hh => hh⟩
    rw [show n = 0 by omega]
    rfl
  · exact ⟨σ, i, a, z, hM, CK.refl i a, Or.inr ⟨t, q, k, h3 _, h1, h2, h4, h5, h6, h7, h8⟩, fun _ _ => rfl, fun res hh => hh⟩
  · cases hps : (D.2.getD j default).2.2.2.2.1 with
    | nil => exact absurd hps h3
    | cons w ts =>
      obtain ⟨s1, i1, a1, z1, b1, b2, b3, b4, b5⟩ := sim_args (cs := cs) hd hT hO hr (hE h4) h4 h1 h2 ts w 0 σ i a q (k0 + 1) hps hM hV h9 h5 h8 h10 h11 h12 h13
      rw [h7]
      refine ⟨s1, i1, a1, z1, b1, b2, ?_, b4, b5⟩
      rw [h6, hps]
      rcases b3 with ⟨x1, x2⟩ | ⟨t', q', k', x1, x2, x3, x4, x5, x6, x7, x8⟩
      · refine Or.inl ⟨?_, x2⟩
        rw [Option.map_eq_none_iff] at x1 ⊢
        exact x1
      · obtain ⟨S, hS, e⟩ := Option.map_eq_some_iff.mp x1
        rw [hS]
        refine Or.inr ⟨t', q', 1 + k', ?_, x2, x3, x4, x5, x6, x7, by rw [← Nat.add_assoc]; exact x8⟩
        have e := Prod.mk.inj e
        have e2 := Prod.mk.inj e.2
        show some (_, S.1, 1 + S.2) = _
        rw [e.1, e2.1, e2.2]
theorem sim_sels {n dep k0 : Nat} (hd : 6 < d) (hT : ∀ c ∈ txt, cok c) (hO : catOk dec) (hr : ranked dec rk) (hn : dep + 1 + n = 7) (hE : dep < 6 → SimE cs d m top sl dec pl vs txt (dep + 1) (exprP dec pl vs txt n)) :
    ∀ (f t q kk : Nat) (σ : am_H) (i : Nat → Int32) (a : Nat → Nat → Int32), 120 ≤ q + f → t < 13 → mo σ m i a → MEnv dec pl vs txt i a → M_at i q → q ≤ txt.length → i 4 = b2i true → i 33 = ii dep → i 36 = ii (k0 + kk) →
    ∃ (σ' : am_H) (i' : Nat → Int32) (a' : Nat → Nat → Int32) (z' : Int32), mo σ' m i' a' ∧ CK dep i i' a a' ∧ cOut txt dep k0 (selsP dec pl txt (exprP dec pl vs txt n) f t q kk) z' i' ∧ (∀ R, selsP dec pl txt (exprP dec pl vs txt n) f t q kk = some R → ¬ txt.getD R.2.1 0 = 46) ∧ (∀ x, x < m ∨ m + 25 ≤ x → σ' x = σ x) ∧ ∀ res, am_to cd_t cs d 146 25 [some (.ref m), some (.int z')] [] σ' top sl res → am_to cd_t cs d 146 25 [some (.ref m), some (.int (ii t))] [] σ top sl res := by
  intro f
  induction f with
  | zero =>
    intro t q kk σ i a hf ht hM hV hP hq hG hop hk
    have hlen := hV.1.2.1
    refine ⟨σ, i, a, ii t, hM, CK.refl i a, Or.inr ⟨t, q, kk, rfl, ht, hq, rfl, hG, hP, hop, hk⟩, (fun R hR => ?_), fun _ _ => rfl, fun res hh => hh⟩
    rw [← Option.some.inj hR]
    show ¬ txt.getD q 0 = 46
    rw [getD_out (by omega)]
    decide
  | succ f ih =>
    intro t q kk σ i a hf ht hM hV hP hq hG hop hk
    have hlen := hV.1.2.1
    rw [selsP]
    by_cases h46 : txt.getD q 0 = 46
    · rw [if_pos h46]
      obtain ⟨s1, i1, a1, z1, b1, b2, b3, b4, b5⟩ := m_furtherSel (cs := cs) (d := d - 1) (top := top) (sl := sl) (by omega) hT hM hV hP hG hop (by omega) hk hO hr ht h46
      obtain ⟨s2, i2, a2, z2, c1, c2, c3, c4, c5⟩ := sim_use (cs := cs) hd hT hO hr hn hE b2 (hV.ck b3) b4
      have ck2 : CK dep i i2 a a2 := b3.trans c2 (Nat.le_refl _)
      have f2 : ∀ y, y < m ∨ m + 25 ≤ y → s2 y = σ y := fun y hy => (c4 y hy).trans (b5 y hy)
      have look := m_look (cs := cs) (d := d - 1) (top := top) (sl := sl) (k := 0) hM hV.1 hP hT (by omega) (by decide)
      rw [Nat.add_zero, h46] at look
      have go : ∀ res, am_to cd_t cs d 146 25 [some (.ref m), some (.int z2)] [] s2 top sl res → am_to cd_t cs d 146 25 [some (.ref m), some (.int (ii t))] [] σ top sl res := by
        intro res hh
        have fin : am_to cd_t cs d 146 54 [some (.ref m), some (.int (ii t))] [] σ top sl res := by
          refine x_n cd_i146_54 rfl rfl ?_
          refine x_ic cd_i146_55 (z := (-1)) rfl ?_
          show am_to cd_t _ _ 146 56 _ _ _ _ _ _
          refine x_icmp_t cd_i146_56 (ii_ne1 (show t < 2147483648 by omega)) ?_
          refine x_n cd_i146_66 rfl rfl ?_
          refine x_n cd_i146_67 rfl rfl ?_
          show am_to cd_t _ _ 146 68 _ _ _ _ _ _
          refine x_callv (as' := [.int (ii t)]) cd_i146_68 hM.1 (by omega) rfl rfl rfl rfl rfl rfl (b1) ?_
          refine x_n cd_i146_71 rfl rfl ?_
          try dsimp only [List.set]
          refine x_n cd_i146_72 rfl rfl ?_
          show am_to cd_t _ _ 146 25 _ _ _ _ _ _
          exact c5 res hh
        refine x_n cd_i146_25 rfl rfl ?_
        show am_to cd_t _ _ 146 26 _ _ _ _ _ _
        refine x_getf cd_i146_26 hM.1 (congrArg (fun z => some (Value.int z)) (hG)) rfl ?_
        refine x_if_f cd_i146_29 (fun z => absurd (show (1 : Int32) = 0 from z) (by decide)) ?_
        refine x_n cd_i146_32 rfl rfl ?_
        refine x_ic cd_i146_33 (z := (-1)) rfl ?_
        show am_to cd_t _ _ 146 34 _ _ _ _ _ _
        refine x_icmp_f cd_i146_34 (ii_ne1 (show t < 2147483648 by omega)) ?_
        refine x_n cd_i146_37 rfl rfl ?_
        show am_to cd_t _ _ 146 38 _ _ _ _ _ _
        refine x_getf cd_i146_38 hM.1 (congrArg (fun z => some (Value.int z)) (hop)) rfl ?_
        refine x_if cd_i146_41 (fun _ => fin) (fun _ => ?_)
        refine x_n cd_i146_44 rfl rfl ?_
        refine x_ic cd_i146_45 (z := ii 0) rfl ?_
        show am_to cd_t _ _ 146 46 _ _ _ _ _ _
        refine x_callv (as' := [.int (ii 0)]) cd_i146_46 hM.1 (by omega) rfl rfl rfl rfl rfl rfl (look) ?_
        refine x_bi cd_i146_49 (z := ii 46) (by decide) ?_
        show am_to cd_t _ _ 146 51 _ _ _ _ _ _
        exact x_icmp_f cd_i146_51 (fun y => y rfl) fin
      rcases c3 with ⟨x1, x2⟩ | ⟨t', q', k', x1, x2, x3, x4, x5, x6, x7, x8⟩
      · have x1 : selP dec pl txt (exprP dec pl vs txt n) t (q + 1) = none := x1
        rw [x1]
        exact ⟨s2, i2, a2, z2, c1, ck2, Or.inl ⟨rfl, x2⟩, (fun R hR => by cases hR), f2, go⟩
      · have x1 : selP dec pl txt (exprP dec pl vs txt n) t (q + 1) = some (t', q', k') := x1
        have hmono := selP_mono (exprP_mono n) x1
        have hmono : q + 1 ≤ q' := hmono
        rw [x1]
        dsimp only
        rw [x4] at go
        obtain ⟨s3, i3, a3, z3, d1, d2, d3, d4, d5, d6⟩ := ih t' q' (kk + k') s2 i2 a2 (by omega) x2 c1 (hV.ck ck2) x6 x3 x5 x7 (by rw [← Nat.add_assoc]; exact x8)
        exact ⟨s3, i3, a3, z3, d1, ck2.trans d2 (Nat.le_refl _), d3, d4, fun y hy => (d5 y hy).trans (f2 y hy), fun res hh => go res (d6 res hh)⟩
    · rw [if_neg h46]
      refine ⟨σ, i, a, ii t, hM, CK.refl i a, Or.inr ⟨t, q, kk, rfl, ht, hq, rfl, hG, hP, hop, hk⟩, (fun R hR => ?_), fun _ _ => rfl, fun res hh => hh⟩
      rw [← Option.some.inj hR]
      exact h46
/-- behind a primary -/
theorem sim_after {n dep k0 p : Nat} {σ : am_H} {i : Nat → Int32} {a : Nat → Nat → Int32} {z : Int32} (hd : 6 < d) (hT : ∀ c ∈ txt, cok c) (hO : catOk dec) (hr : ranked dec rk) (hn : dep + 1 + n = 7) (hE : dep < 6 → SimE cs d m top sl dec pl vs txt (dep + 1) (exprP dec pl vs txt n)) (hM : mo σ m i a) (hV : MEnv dec pl vs txt i a) (hu : uOut dec txt dep k0 (fun E => headP dec pl vs txt E p) z i a) :
    ∃ (σ' : am_H) (i' : Nat → Int32) (a' : Nat → Nat → Int32) (z' : Int32), mo σ' m i' a' ∧ CK dep i i' a a' ∧ cOut txt dep k0 (exprP dec pl vs txt (n + 1) p) z' i' ∧ (∀ R, exprP dec pl vs txt (n + 1) p = some R → ¬ txt.getD R.2.1 0 = 46) ∧ (∀ x, x < m ∨ m + 25 ≤ x → σ' x = σ x) ∧ ∀ res, am_to cd_t cs d 146 25 [some (.ref m), some (.int z')] [] σ' top sl res → am_to cd_t cs d 146 25 [some (.ref m), some (.int z)] [] σ top sl res := by
  obtain ⟨s2, i2, a2, z2, c1, c2, c3, c4, c5⟩ := sim_use (cs := cs) hd hT hO hr hn hE hM hV hu
  rw [exprP]
  rcases c3 with ⟨x1, x2⟩ | ⟨t', q', k', x1, x2, x3, x4, x5, x6, x7, x8⟩
  · have x1 : headP dec pl vs txt (exprP dec pl vs txt n) p = none := x1
    rw [x1]
    exact ⟨s2, i2, a2, z2, c1, c2, Or.inl ⟨rfl, x2⟩, (fun R hR => by cases hR), c4, c5⟩
  · have x1 : headP dec pl vs txt (exprP dec pl vs txt n) p = some (t', q', k') := x1
    rw [x1]
    dsimp only
    rw [x4] at c5
    obtain ⟨s3, i3, a3, z3, d1, d2, d3, d4, d5, d6⟩ := sim_sels (cs := cs) (k0 := k0) hd hT hO hr hn hE 120 t' q' k' s2 i2 a2 (by omega) x2 c1 (hV.ck c2) x6 x3 x5 x7 x8
    exact ⟨s3, i3, a3, z3, d1, c2.trans d2 (Nat.le_refl _), d3, d4, fun y hy => (d5 y hy).trans (c4 y hy), fun res hh => c5 res (d6 res hh)⟩
theorem sim_expr (hd : 6 < d) (hT : ∀ c ∈ txt, cok c) (hO : catOk dec) (hr : ranked dec rk) (hVs : distV vs) : ∀ (n dep : Nat), dep + (n + 1) = 7 → SimE cs d m top sl dec pl vs txt dep (exprP dec pl vs txt (n + 1)) := by
  intro n
  induction n with
  | zero =>
    intro dep hdep σ i a p k v1 hM hV hP hp hG hop hk
    obtain ⟨s1, i1, a1, z1, b1, b2, b3, b4, b5⟩ := m_primary (cs := cs) (d := d - 1) (top := top) (sl := sl) (by omega) hT hM hV.1 hP hp hG hop (by omega) hk hV.2.1 hV.2.2.1 hO hr hV.2.2.2.1 hV.2.2.2.2 hVs
    obtain ⟨s3, i3, a3, z3, d1, d2, d3, d4, d5, d6⟩ := sim_after (cs := cs) (n := 0) hd hT hO hr (by omega) (fun h => by omega) b2 (hV.ck b3) b4
    refine ⟨s3, i3, a3, z3, d1, b3.trans d2 (Nat.le_refl _), d3, d4, fun y hy => (d5 y hy).trans (b5 y hy), fun res hh => ?_⟩
    refine x_callv (as' := []) cd_i146_60 hM.1 (by omega) rfl rfl rfl rfl rfl rfl (b1) ?_
    refine x_n cd_i146_63 rfl rfl ?_
    refine x_n cd_i146_71 rfl rfl ?_
    try dsimp only [List.set]
    refine x_n cd_i146_72 rfl rfl ?_
    show am_to cd_t _ _ 146 25 _ _ _ _ _ _
    exact d6 res hh
  | succ n ih =>
    intro dep hdep σ i a p k v1 hM hV hP hp hG hop hk
    obtain ⟨s1, i1, a1, z1, b1, b2, b3, b4, b5⟩ := m_primary (cs := cs) (d := d - 1) (top := top) (sl := sl) (by omega) hT hM hV.1 hP hp hG hop (by omega) hk hV.2.1 hV.2.2.1 hO hr hV.2.2.2.1 hV.2.2.2.2 hVs
    obtain ⟨s3, i3, a3, z3, d1, d2, d3, d4, d5, d6⟩ := sim_after (cs := cs) (n := n + 1) hd hT hO hr (by omega) (fun h => ih (dep + 1) (by omega)) b2 (hV.ck b3) b4
    refine ⟨s3, i3, a3, z3, d1, b3.trans d2 (Nat.le_refl _), d3, d4, fun y hy => (d5 y hy).trans (b5 y hy), fun res hh => ?_⟩
    refine x_callv (as' := []) cd_i146_60 hM.1 (by omega) rfl rfl rfl rfl rfl rfl (b1) ?_
    refine x_n cd_i146_63 rfl rfl ?_
    refine x_n cd_i146_71 rfl rfl ?_
    try dsimp only [List.set]
    refine x_n cd_i146_72 rfl rfl ?_
    show am_to cd_t _ _ 146 25 _ _ _ _ _ _
    exact d6 res hh
theorem m_check {σ : am_H} {i : Nat → Int32} {a : Nat → Nat → Int32} (hd : 7 < d) (hT : ∀ c ∈ txt, cok c) (hO : catOk dec) (hr : ranked dec rk) (hVs : distV vs) (hM : mo σ m i a) (hV : MEnv dec pl vs txt i a) :
    ∃ (σ' : am_H) (i' : Nat → Int32) (a' : Nat → Nat → Int32) (r : Int32), am_to cd_t cs d 146 0 (am_ent 2 [.ref m]) [] σ top sl (.inl (some (.int r)), σ', top, sl) ∧ mo σ' m i' a' ∧ (∀ q, q ∉ [0, 2, 3, 4, 32, 33, 36] → i' q = i q) ∧ (∀ k, k ≠ 23 → k ≠ 24 → a' k = a k) ∧ i' 2 = ii 0 ∧ (∀ x, x < m ∨ m + 25 ≤ x → σ' x = σ x) ∧
      ((pChk dec pl vs txt = none ∧ i' 0 = 1 ∧ i' 32 = i 32) ∨ ∃ R, pChk dec pl vs txt = some R ∧ i' 0 = 0 ∧ i' 32 = ii R.2 ∧ r = ii R.1) := by
  have hlen := hV.1.2.1
  have h1 := hM.put (upd i 3 (ii 0))
  have h2 := h1.put (upd (upd i 3 (ii 0)) 4 (ii 1))
  have h3 := h2.put (upd (upd (upd i 3 (ii 0)) 4 (ii 1)) 33 (ii 0))
  have h4 := h3.put (upd (upd (upd (upd i 3 (ii 0)) 4 (ii 1)) 33 (ii 0)) 36 (ii 0))
  obtain ⟨s4, hs4⟩ : ∃ z, z = am_up (am_up (am_up (am_up σ m (.inr (.inl (11, mo_f m (upd i 3 (ii 0)))))) m (.inr (.inl (11, mo_f m (upd (upd i 3 (ii 0)) 4 (ii 1)))))) m (.inr (.inl (11, mo_f m (upd (upd (upd i 3 (ii 0)) 4 (ii 1)) 33 (ii 0)))))) m (.inr (.inl (11, mo_f m (upd (upd (upd (upd i 3 (ii 0)) 4 (ii 1)) 33 (ii 0)) 36 (ii 0))))) := ⟨_, rfl⟩
  rw [← hs4] at h4
  have f4 : ∀ y, y < m ∨ m + 25 ≤ y → s4 y = σ y := fun y hy => by rw [hs4, am_up_ne _ _ (by omega), am_up_ne _ _ (by omega), am_up_ne _ _ (by omega), am_up_ne _ _ (by omega)]
  have ck4 : CK 0 i (upd (upd (upd (upd i 3 (ii 0)) 4 (ii 1)) 33 (ii 0)) 36 (ii 0)) a a := (((CK.num i a (by decide)).trans (CK.num _ a (by decide)) (Nat.le_refl _)).trans (CK.num _ a (by decide)) (Nat.le_refl _)).trans (CK.num _ a (by decide)) (Nat.le_refl _)
  have V4 := hV.ck ck4
  obtain ⟨s5, i5, a5, z5, b1, b2, b3, b4, b5⟩ := m_primary (cs := cs) (d := d - 1) (top := top) (sl := sl) (p := 0) (dep := 0) (k0 := 0) (by omega) hT h4 V4.1 rfl (Nat.zero_le _) rfl rfl (by omega) rfl V4.2.1 V4.2.2.1 hO hr V4.2.2.2.1 V4.2.2.2.2 hVs
  obtain ⟨s6, i6, a6, z6, d1, d2, d3, d4, d5, d6⟩ := sim_after (cs := cs) (d := d) (n := 6) (dep := 0) (by omega) hT hO hr (by omega) (fun _ => sim_expr (by omega) hT hO hr hVs 5 1 (by omega)) b2 (V4.ck b3) b4
  have ck6 : CK 0 i i6 a a6 := (ck4.trans b3 (Nat.le_refl _)).trans d2 (Nat.le_refl _)
  have V6 := hV.ck ck6
  have f6 : ∀ y, y < m ∨ m + 25 ≤ y → s6 y = σ y := fun y hy => (d5 y hy).trans ((b5 y hy).trans (f4 y hy))
  have go1 : ∀ res, am_to cd_t cs d 146 25 [some (.ref m), some (.int z6)] [] s6 top sl res → am_to cd_t cs d 146 0 (am_ent 2 [.ref m]) [] σ top sl res := by
    intro res hh
    refine x_n cd_i146_0 rfl rfl ?_
    refine x_ic cd_i146_1 (z := ii 0) rfl ?_
    show am_to cd_t _ _ 146 2 _ _ _ _ _ _
    refine x_putf cd_i146_2 (fs' := mo_f m (upd i 3 (ii 0))) hM.1 rfl rfl rfl ?_
    refine x_n cd_i146_5 rfl rfl ?_
    refine x_ic cd_i146_6 (z := ii 1) rfl ?_
    show am_to cd_t _ _ 146 7 _ _ _ _ _ _
    refine x_putf cd_i146_7 (fs' := mo_f m (upd (upd i 3 (ii 0)) 4 (ii 1))) h1.1 rfl rfl rfl ?_
    refine x_n cd_i146_10 rfl rfl ?_
    refine x_ic cd_i146_11 (z := ii 0) rfl ?_
    show am_to cd_t _ _ 146 12 _ _ _ _ _ _
    refine x_putf cd_i146_12 (fs' := mo_f m (upd (upd (upd i 3 (ii 0)) 4 (ii 1)) 33 (ii 0))) h2.1 rfl rfl rfl ?_
    refine x_n cd_i146_15 rfl rfl ?_
    refine x_ic cd_i146_16 (z := ii 0) rfl ?_
    show am_to cd_t _ _ 146 17 _ _ _ _ _ _
    refine x_putf cd_i146_17 (fs' := mo_f m (upd (upd (upd (upd i 3 (ii 0)) 4 (ii 1)) 33 (ii 0)) 36 (ii 0))) h3.1 rfl rfl rfl ?_
    refine hs4 ▸ ?_
    refine x_n cd_i146_20 rfl rfl ?_
    show am_to cd_t _ _ 146 21 _ _ _ _ _ _
    refine x_callv (as' := []) cd_i146_21 h4.1 (by omega) rfl rfl rfl rfl rfl rfl (b1) ?_
    refine x_n cd_i146_24 rfl rfl ?_
    try dsimp only [List.set]
    show am_to cd_t _ _ 146 25 _ _ _ _ _ _
    exact d6 res hh
  have stop : ∀ (g e : Bool), i6 4 = b2i g → (e = true ↔ i6 3 = ii txt.length) → ∃ s8 : am_H, mo s8 m (upd (upd i6 4 (b2i (g && e))) 2 (ii 0)) a6 ∧ (∀ y, y < m ∨ m + 25 ≤ y → s8 y = σ y) ∧ ∀ res, am_to cd_t cs d 146 104 [some (.ref m), some (.int z6)] [.int (b2i (g && e))] s8 top sl res → am_to cd_t cs d 146 75 [some (.ref m), some (.int z6)] [] s6 top sl res := by
    intro g e hg he
    obtain ⟨s7, c1, c2, c3⟩ := m_must (cs := cs) (d := d - 1) (top := top) (sl := sl) (s := e) (g := g) d1 hg
    have k2 := c2.put (upd (upd i6 4 (b2i (g && e))) 2 (ii 0))
    refine ⟨_, k2, fun y hy => by rw [am_up_ne _ _ (by omega), c3 y hy, f6 y hy], fun res hh => ?_⟩
    have fin : am_to cd_t cs d 146 92 [some (.ref m), some (.int z6)] [.int (b2i e), .ref m] s6 top sl res := by
      refine x_callv (as' := [.int (b2i e)]) (r := none) cd_i146_92 d1.1 (by omega) rfl rfl rfl rfl rfl rfl (c1) ?_
      refine x_n cd_i146_95 rfl rfl ?_
      refine x_ic cd_i146_96 (z := ii 0) rfl ?_
      show am_to cd_t _ _ 146 97 _ _ _ _ _ _
      refine x_putf cd_i146_97 (fs' := mo_f m (upd (upd i6 4 (b2i (g && e))) 2 (ii 0))) c2.1 rfl rfl rfl ?_
      refine x_n cd_i146_100 rfl rfl ?_
      show am_to cd_t _ _ 146 101 _ _ _ _ _ _
      refine x_getf cd_i146_101 k2.1 (congrArg (fun z => some (Value.int z)) (rfl)) rfl ?_
      exact hh
    refine x_n cd_i146_75 rfl rfl ?_
    refine x_n cd_i146_76 rfl rfl ?_
    refine x_getf cd_i146_77 d1.1 rfl rfl ?_
    refine x_n cd_i146_80 rfl rfl ?_
    show am_to cd_t _ _ 146 81 _ _ _ _ _ _
    refine x_getf cd_i146_81 d1.1 (congrArg (fun z => some (Value.int z)) (V6.1.1)) rfl ?_
    refine x_icmp cd_i146_84 (fun y => ?_) (fun y => ?_)
    · have : e = false := by
        cases h : e with
        | false => rfl
        | true => exact absurd (he.mp h) y
      rw [this] at fin
      refine x_ic cd_i146_91 (z := ii 0) rfl ?_
      show am_to cd_t _ _ 146 92 _ _ _ _ _ _
      exact fin
    · rw [he.mpr (Decidable.not_not.mp y)] at fin
      refine x_ic cd_i146_87 (z := ii 1) rfl ?_
      refine x_n cd_i146_88 rfl rfl ?_
      show am_to cd_t _ _ 146 92 _ _ _ _ _ _
      exact fin
  have sames : ∀ (j : Nat → Int32), (∀ q, q ∉ [0, 2, 4, 32] → j q = i6 q) → ∀ q, q ∉ [0, 2, 3, 4, 32, 33, 36] → j q = i q := fun j hj q hq => (hj q (fun z => hq (by simp at z ⊢; omega))).trans (ck6.1 q (fun z => hq (by simp at z ⊢; omega)))
  have bad : ∀ (g e : Bool), i6 4 = b2i g → (e = true ↔ i6 3 = ii txt.length) → (g && e) = false → pChk dec pl vs txt = none → (∀ res, am_to cd_t cs d 146 75 [some (.ref m), some (.int z6)] [] s6 top sl res → am_to cd_t cs d 146 0 (am_ent 2 [.ref m]) [] σ top sl res) →
      ∃ (σ' : am_H) (i' : Nat → Int32) (a' : Nat → Nat → Int32) (r : Int32), am_to cd_t cs d 146 0 (am_ent 2 [.ref m]) [] σ top sl (.inl (some (.int r)), σ', top, sl) ∧ mo σ' m i' a' ∧ (∀ q, q ∉ [0, 2, 3, 4, 32, 33, 36] → i' q = i q) ∧ (∀ k, k ≠ 23 → k ≠ 24 → a' k = a k) ∧ i' 2 = ii 0 ∧ (∀ x, x < m ∨ m + 25 ≤ x → σ' x = σ x) ∧
      ((pChk dec pl vs txt = none ∧ i' 0 = 1 ∧ i' 32 = i 32) ∨ ∃ R, pChk dec pl vs txt = some R ∧ i' 0 = 0 ∧ i' 32 = ii R.2 ∧ r = ii R.1) := by
    intro g e hg he hge hP hgo
    obtain ⟨s8, k1, k2, k3⟩ := stop g e hg he
    rw [hge] at k1 k3
    refine ⟨_, _, a6, ii 0, hgo _ (k3 _ (x_if_f cd_i146_104 (fun z => z rfl) ?_)), k1.put (upd (upd (upd i6 4 (b2i false)) 2 (ii 0)) 0 (ii 1)), sames _ (fun q hq => ?_), ck6.2.1, rfl, fun y hy => by rw [am_up_ne _ _ (by omega), k2 y hy], Or.inl ⟨hP, rfl, ?_⟩⟩
    · refine x_n cd_i146_107 rfl rfl ?_
      refine x_ic cd_i146_108 (z := ii 1) rfl ?_
      show am_to cd_t _ _ 146 109 _ _ _ _ _ _
      refine x_callv (as' := [.int (ii 1)]) cd_i146_109 k1.1 (by omega) rfl rfl rfl rfl rfl rfl (m_refuse k1) ?_
      exact x_end cd_i146_112 rfl rfl rfl
    · rw [upd_ne (fun z => hq (by rw [z]; decide)), upd_ne (fun z => hq (by rw [z]; decide)), upd_ne (fun z => hq (by rw [z]; decide))]
    · show i6 32 = i 32
      exact ck6.1 32 (by decide)
  rcases d3 with ⟨x1, x2⟩ | ⟨t, q, k, x1, x2, x3, x4, x5, x6, x7, x8⟩
  · refine bad false (decide (i6 3 = ii txt.length)) x2 decide_eq_true_iff rfl ?_ (fun res hh => go1 res ?_)
    · unfold pChk
      rw [x1]
    · refine x_n cd_i146_25 rfl rfl ?_
      show am_to cd_t _ _ 146 26 _ _ _ _ _ _
      refine x_getf cd_i146_26 d1.1 (congrArg (fun z => some (Value.int z)) (x2)) rfl ?_
      exact x_if_t cd_i146_29 rfl hh
  · have n46 : ¬ txt.getD q 0 = 46 := d4 _ x1
    have hlq := getD_cok hT q
    have look := m_look (cs := cs) (d := d - 1) (top := top) (sl := sl) (k := 0) d1 V6.1 x6 hT (by omega) (by decide)
    rw [Nat.add_zero] at look
    have go2 : ∀ res, am_to cd_t cs d 146 75 [some (.ref m), some (.int z6)] [] s6 top sl res → am_to cd_t cs d 146 0 (am_ent 2 [.ref m]) [] σ top sl res := by
      intro res hh
      refine go1 res ?_
      rw [x4] at hh ⊢
      refine x_n cd_i146_25 rfl rfl ?_
      show am_to cd_t _ _ 146 26 _ _ _ _ _ _
      refine x_getf cd_i146_26 d1.1 (congrArg (fun z => some (Value.int z)) (x5)) rfl ?_
      refine x_if_f cd_i146_29 (fun z => absurd (show (1 : Int32) = 0 from z) (by decide)) ?_
      refine x_n cd_i146_32 rfl rfl ?_
      refine x_ic cd_i146_33 (z := (-1)) rfl ?_
      show am_to cd_t _ _ 146 34 _ _ _ _ _ _
      refine x_icmp_f cd_i146_34 (ii_ne1 (show t < 2147483648 by omega)) ?_
      refine x_n cd_i146_37 rfl rfl ?_
      show am_to cd_t _ _ 146 38 _ _ _ _ _ _
      refine x_getf cd_i146_38 d1.1 (congrArg (fun z => some (Value.int z)) (x7)) rfl ?_
      refine x_if_f cd_i146_41 (show ¬ (0 : Int32) < ii 0 by decide) ?_
      refine x_n cd_i146_44 rfl rfl ?_
      refine x_ic cd_i146_45 (z := ii 0) rfl ?_
      show am_to cd_t _ _ 146 46 _ _ _ _ _ _
      refine x_callv (as' := [.int (ii 0)]) cd_i146_46 d1.1 (by omega) rfl rfl rfl rfl rfl rfl (look) ?_
      refine x_bi cd_i146_49 (z := ii 46) (by decide) ?_
      show am_to cd_t _ _ 146 51 _ _ _ _ _ _
      exact x_icmp_t cd_i146_51 (fun y => n46 ((ii_eq (by omega) (by decide)).mp y)) hh
    have heq : (decide (q = txt.length) = true ↔ i6 3 = ii txt.length) := by
      rw [decide_eq_true_iff, show i6 3 = ii q from x6, ii_eq (by omega) (by omega)]
    by_cases hq : q = txt.length
    · have hP : pChk dec pl vs txt = some (t, k) := by
        unfold pChk
        rw [x1]
        dsimp only
        rw [if_pos hq]
      obtain ⟨s8, k1, k2, k3⟩ := stop true (decide (q = txt.length)) x5 heq
      rw [decide_eq_true hq] at k1 k3
      have k9 := k1.put (upd (upd (upd i6 4 (b2i (true && true))) 2 (ii 0)) 0 (ii 0))
      have k10 := k9.put (upd (upd (upd (upd i6 4 (b2i (true && true))) 2 (ii 0)) 0 (ii 0)) 32 (ii k))
      have hcnt : i6 36 = ii k := by rw [Nat.zero_add] at x8; exact x8
      refine ⟨_, _, a6, z6, go2 _ (k3 _ (x_if_t cd_i146_104 (fun z => absurd (show (1 : Int32) = 0 from z) (by decide)) ?_)), k10, sames _ (fun q hq => ?_), ck6.2.1, rfl, fun y hy => by rw [am_up_ne _ _ (by omega), am_up_ne _ _ (by omega), k2 y hy], Or.inr ⟨(t, k), hP, rfl, rfl, x4⟩⟩
      · refine x_n cd_i146_113 rfl rfl ?_
        refine x_ic cd_i146_114 (z := ii 0) rfl ?_
        show am_to cd_t _ _ 146 115 _ _ _ _ _ _
        refine x_putf cd_i146_115 (fs' := mo_f m (upd (upd (upd i6 4 (b2i (true && true))) 2 (ii 0)) 0 (ii 0))) k1.1 rfl rfl rfl ?_
        refine x_n cd_i146_118 rfl rfl ?_
        refine x_n cd_i146_119 rfl rfl ?_
        show am_to cd_t _ _ 146 120 _ _ _ _ _ _
        refine x_getf cd_i146_120 k9.1 (congrArg (fun z => some (Value.int z)) (hcnt)) rfl ?_
        refine x_putf cd_i146_123 (fs' := mo_f m (upd (upd (upd (upd i6 4 (b2i (true && true))) 2 (ii 0)) 0 (ii 0)) 32 (ii k))) k9.1 rfl rfl rfl ?_
        refine x_n cd_i146_126 rfl rfl ?_
        show am_to cd_t _ _ 146 127 _ _ _ _ _ _
        exact x_end cd_i146_127 rfl rfl rfl
      · rw [upd_ne (fun z => hq (by rw [z]; decide)), upd_ne (fun z => hq (by rw [z]; decide)), upd_ne (fun z => hq (by rw [z]; decide)), upd_ne (fun z => hq (by rw [z]; decide))]
    · refine bad true (decide (q = txt.length)) x5 heq (by rw [decide_eq_false hq]; rfl) ?_ go2
      unfold pChk
      rw [x1]
      dsimp only
      rw [if_neg hq]
end SI
