theorem M_cat.sm {a a' : Nat → Nat → Int32} {dec : Nat → Option Dec} (h : M_cat a dec) (e : ∀ k, 2 ≤ k → k ≤ 11 → a' k = a k) : M_cat a' dec := by
  intro c hc
  obtain ⟨h1, h2⟩ := h c hc
  rw [e 2 (by decide) (by decide), e 3 (by decide) (by decide), e 4 (by decide) (by decide)]
  refine ⟨h1, fun D hD => ?_⟩
  obtain ⟨g1, g2, g3, g4, g5⟩ := h2 D hD
  refine ⟨g1, g2, g3, g4, fun k hk => ?_⟩
  have := g5 k hk
  unfold M_mem at this ⊢
  rw [e 5 (by decide) (by decide), e 6 (by decide) (by decide), e 7 (by decide) (by decide), e 8 (by decide) (by decide), e 9 (by decide) (by decide), e 10 (by decide) (by decide), e 11 (by decide) (by decide)]
  exact this
section SK
variable {cs : Nat → Value} {ad : Nat → Nat} {q L : Nat} {xs : Nat → Int32} {b d n : Nat} {σ : am_H} {top sl : Nat} {v5 v6 : Option Value}
theorem st_enter (hd : 50 < d) (hcs : csOk cs ad) (hn : n + 2 < L) (hL : L ≤ 1536) (hq : q < b) (h : inv cs ad q L xs b σ top) : stp cs ad q L xs b d n 240 σ top sl v5 v6 := by
  obtain ⟨v, txt, dec, pl, da, ea, rk, k0, vs, pr, i, a, hX, hM, hOI, hLI, ht⟩ := h
  obtain ⟨x1, x2, x3, x4, x5, x6, x7, x8, x9⟩ := id hX
  obtain ⟨m1, m2, m3, m4, m5, m6, m7, m8⟩ := id hM
  obtain ⟨l1, l2, l3, l4⟩ := id hLI
  obtain ⟨hs, f, hof⟩ := id hOI
  obtain ⟨hc1, hc2⟩ := l_enter (cs := cs) (d := d - 1) (top := top) (sl := sl) (c := xs (n + 1)) (by omega) x2 x4.1
  obtain ⟨s1, top1, sl1, k, hc, ht1, ht2, hsl, X1, hk, hcf⟩ : ∃ (s1 : am_H) (top1 sl1 : Nat) (k : Int32), am_to cd_t cs (d - 1) 159 0 (am_ent 3 [.ref b, .int (xs (n + 1))]) [] σ top sl (.inl (some (.int k)), s1, top1, sl1) ∧ top ≤ top1 ∧ top1 ≤ top + 1 ∧ sl1 ≤ sl + 6 ∧ XI cs ad b s1 top1 v txt dec (if -1 ≤ (xs (n + 1)).toInt ∧ (xs (n + 1)).toInt < 10 then xs (n + 1) else pl) da ea k0 vs pr ∧ k = (if -1 ≤ (xs (n + 1)).toInt ∧ (xs (n + 1)).toInt < 10 then 0 else 1) ∧ ∀ x, x ≠ b + 3 → x < top → s1 x = σ x := by
    by_cases hv : -1 ≤ (xs (n + 1)).toInt ∧ (xs (n + 1)).toInt < 10
    · rw [if_pos hv, if_pos hv]
      have f1 : ∀ x, x ≠ b + 3 → am_up σ (b + 3) (.inr (.inl (2, [.ref (b + 4), .ref (b + 5), .int (xs (n + 1))]))) x = σ x := fun x hx => am_up_ne _ _ hx
      refine ⟨_, top, sl, 0, hc1 hv, Nat.le_refl _, by omega, by omega, ?_, rfl, fun x hx _ => f1 x hx⟩
      obtain ⟨g1, ⟨g, g2, g3⟩, g4, ⟨F, g5, g6⟩, g7⟩ := x4
      exact ⟨x1.kept (fun x hx => f1 x (by omega)), (f1 _ (by omega)).trans x2, x3.kept (f1 _ (by omega)) (f1 _ (by omega)), ⟨am_up_self _ _ _, ⟨g, (f1 _ (by omega)).trans g2, g3⟩, fun c D hc hD => (g4 c D hc hD).kept (fun x u1 u2 => f1 x (by omega)) (Nat.le_refl _), ⟨F, (f1 _ (by omega)).trans g5, g6⟩, g7⟩, (f1 _ (by omega)).trans x5, (f1 _ (by omega)).trans x6, x7.kept (fun x u1 u2 => f1 x (by omega)), x8.kept (fun x u1 u2 => f1 x (by omega)), x9.kept (fun x u1 u2 => f1 x (by omega))⟩
    · rw [if_neg hv, if_neg hv]
      have f1 : ∀ x, x < top → am_up σ top (.inr (.inl (12, []))) x = σ x := fun x hx => am_up_ne _ _ (by omega)
      refine ⟨_, top + 1, sl + 6, 1, hc2 hv, by omega, by omega, by omega, ?_, rfl, fun x _ hx => f1 x hx⟩
      exact ⟨x1.kept (fun x hx => f1 x (by omega)), (f1 _ (by omega)).trans x2, x3.kept (f1 _ (by omega)) (f1 _ (by omega)), x4.kept (f1 _ (by omega)) (f1 _ (by omega)) (f1 _ (by omega)) (fun x u1 u2 => f1 x (by omega)) (by omega), (f1 _ (by omega)).trans x5, (f1 _ (by omega)).trans x6, x7.kept (fun x u1 u2 => f1 x (by omega)), x8.kept (fun x u1 u2 => f1 x (by omega)), x9.kept (fun x u1 u2 => f1 x (by omega))⟩
  have hM1 := hM.kept (fun x u1 u2 => hcf x (by omega) (by omega))
  have hs1 : s1 q = _ := (hcf q (by omega) (by omega)).trans hs
  obtain ⟨s2, i', hm, hm2, hm3, hm4, hm5, hmf⟩ := m_enter (cs := cs) (d := d - 1) (top := top1) (sl := sl1) (c := xs (n + 1)) (by omega) hM1.1
  have M2 : MI b s2 v txt dec (if -1 ≤ (xs (n + 1)).toInt ∧ (xs (n + 1)).toInt < 10 then xs (n + 1) else pl) vs pr i' a := ⟨hm2, m2.sm (hm3.1 2 (by decide)) rfl, m3, m4, by rw [hm5, m5], m6.sm (hm3.1 15 (by decide)) rfl rfl, m7.sm (hm3.1 27 (by decide)) rfl rfl rfl rfl, (hm3.1 32 (by decide)).trans m8⟩
  refine ⟨s2, top1, sl1, some (.int k), v6, ⟨v, txt, dec, _, da, ea, rk, k0, vs, pr, i', a, X1.kept (fun x hx _ => hmf x (by omega)) (by omega), M2, (hOI.kept hq (fun x hx => hcf x (by omega) (by omega))).kept hq (fun x hx => hmf x (by omega)), hLI, by omega⟩, by omega, by omega, fun res hh => ?_⟩
  refine x_n cd_i0_240 rfl rfl ?_
  refine x_n cd_i0_241 rfl rfl ?_
  refine x_n cd_i0_242 rfl rfl ?_
  refine x_ic cd_i0_244 (z := ii 1) rfl ?_
  refine x_iadd cd_i0_245 (ii_add _ 1) ?_
  refine x_iaload0 cd_i0_246 hs (by omega) (by omega) ?_
  refine x_calls (as := [.ref b, .int (xs (n + 1))]) cd_i0_247 (by omega) rfl rfl rfl rfl rfl rfl hc ?_
  refine x_n cd_i0_250 rfl rfl ?_
  dsimp only [List.set]
  refine x_n cd_i0_252 rfl rfl ?_
  refine x_n cd_i0_253 rfl rfl ?_
  refine x_n cd_i0_254 rfl rfl ?_
  refine x_ic cd_i0_256 (z := ii 1) rfl ?_
  refine x_iadd cd_i0_257 (ii_add _ 1) ?_
  refine x_iaload0 cd_i0_258 hs1 (by omega) (by omega) ?_
  refine x_callv (as' := [.int (xs (n + 1))]) (r := none) cd_i0_259 hM1.1.1 (by omega) rfl rfl rfl rfl rfl rfl hm ?_
  refine x_n cd_i0_262 rfl rfl ?_
  refine x_callv (as' := []) cd_i0_263 hm2.1 (by omega) rfl rfl rfl rfl rfl rfl (m_thrown hm2) ?_
  refine x_n cd_i0_266 rfl rfl ?_
  refine x_icmp_t cd_i0_268 (hm4.trans hk.symm) ?_
  refine x_n cd_i0_273 rfl rfl ?_
  exact hh
theorem st_declare (hd : 50 < d) (hcs : csOk cs ad) (hn : n + 2 < L) (hL : L ≤ 1536) (hq : q < b) (h : inv cs ad q L xs b σ top) : stp cs ad q L xs b d n 141 σ top sl v5 v6 := by
  obtain ⟨v, txt, dec, pl, da, ea, rk, k0, vs, pr, i, a, hX, hM, hOI, hLI, ht⟩ := h
  obtain ⟨x1, x2, x3, x4, x5, x6, x7, x8, x9⟩ := id hX
  obtain ⟨m1, m2, m3, m4, m5, m6, m7, m8⟩ := id hM
  obtain ⟨l1, l2, l3, l4⟩ := id hLI
  obtain ⟨hs, f, hof⟩ := id hOI
  obtain ⟨s1, k, g, dec', da', ea', top1, sl1, hc, ht1, ht2, hsl, c1, c2, c3, hcf, hcase⟩ := l_declare (cs := cs) (d := d - 1) (top := top) (sl := sl) (by omega) (show b + 88 ≤ b + 113 by omega) (by omega) hcs x1 x2 x5 x3 l4 x4 l1 l2.1 ht hof
  have fr : ∀ x, x < top → x ≠ b + 1 → x ≠ b + 4 → x ≠ b + 5 → x ≠ b + 113 → s1 x = σ x := fun x u1 u2 u3 u4 u5 => hcf x u1 u2 u5 u3 u4
  have hM1 := hM.kept (fun x u1 u2 => fr x (by omega) (by omega) (by omega) (by omega) (by omega))
  obtain ⟨s2, i', a', r, dec2, hm, hm2, n1, n2, n3, n4, n5, hmf, hmcase⟩ := m_declare (cs := cs) (d := d - 1) (top := top1) (sl := sl1) (by omega) l4 hM1.1 m2 m3 l1 l2.1
  have hg2 : s2 (b + 113) = _ := (hmf _ (by omega)).trans c3
  have X1 : XI cs ad b s1 top1 v [] dec' pl da' ea' k0 vs pr := ⟨x1.kept (fun x hx => fr x (by omega) (by omega) (by omega) (by omega) (by omega)), (fr _ (by omega) (by omega) (by omega) (by omega) (by omega)).trans x2, c1, c2, (fr _ (by omega) (by omega) (by omega) (by omega) (by omega)).trans x5, (fr _ (by omega) (by omega) (by omega) (by omega) (by omega)).trans x6, x7.kept (fun x u1 u2 => fr x (by omega) (by omega) (by omega) (by omega) (by omega)), x8.kept (fun x u1 u2 => fr x (by omega) (by omega) (by omega) (by omega) (by omega)), x9.kept (fun x u1 u2 => fr x (by omega) (by omega) (by omega) (by omega) (by omega))⟩
  have tail : i' 0 = k → (k = 0 → g 0 = r.toInt64) → ∀ res, am_to cd_t cs d 0 574 [some (.ref q), some (.ref b), some (.ref (b + 88)), some (.ref (b + 113)), some (.int (ii n)), some (.int k), some (.int r)] [] s2 top1 sl1 res → am_to cd_t cs d 0 154 [some (.ref q), some (.ref b), some (.ref (b + 88)), some (.ref (b + 113)), some (.int (ii n)), some (.int k), some (.int r)] [] s2 top1 sl1 res := by
    intro heq hgr res hh
    refine x_n cd_i0_154 rfl rfl ?_
    refine x_callv (as' := []) cd_i0_155 hm2.1 (by omega) rfl rfl rfl rfl rfl rfl (m_thrown hm2) ?_
    refine x_n cd_i0_158 rfl rfl ?_
    refine x_icmp_t cd_i0_160 heq ?_
    refine x_n cd_i0_165 rfl rfl ?_
    by_cases hk : k = 0
    · refine x_if_f cd_i0_167 (fun z => z hk) ?_
      refine x_n cd_i0_170 rfl rfl ?_
      refine x_ic cd_i0_171 (z := ii 0) rfl ?_
      refine x_laload cd_i0_172 (i := 0) hg2 (by decide) (by decide) ?_
      rw [hgr hk]
      refine x_n cd_i0_173 rfl rfl ?_
      refine x_n cd_i0_175 rfl rfl ?_
      refine x_lcmp cd_i0_176 ?_
      refine x_if_t cd_i0_177 rfl ?_
      refine x_n cd_i0_182 rfl rfl ?_
      exact hh
    · refine x_if_t cd_i0_167 hk ?_
      refine x_n cd_i0_182 rfl rfl ?_
      exact hh
  have go : i' 0 = k → (k = 0 → g 0 = r.toInt64) → ∀ res, am_to cd_t cs d 0 574 [some (.ref q), some (.ref b), some (.ref (b + 88)), some (.ref (b + 113)), some (.int (ii n)), some (.int k), some (.int r)] [] s2 top1 sl1 res → am_to cd_t cs d 0 141 [some (.ref q), some (.ref b), some (.ref (b + 88)), some (.ref (b + 113)), some (.int (ii n)), v5, v6] [] σ top sl res := by
    intro heq hgr res hh
    refine x_n cd_i0_141 rfl rfl ?_
    refine x_n cd_i0_142 rfl rfl ?_
    refine x_calls (as := [.ref b, .ref (b + 113)]) cd_i0_143 (by omega) rfl rfl rfl rfl rfl rfl hc ?_
    refine x_n cd_i0_146 rfl rfl ?_
    dsimp only [List.set]
    refine x_n cd_i0_148 rfl rfl ?_
    refine x_callv (as' := []) cd_i0_149 hM1.1.1 (by omega) rfl rfl rfl rfl rfl rfl hm ?_
    refine x_n cd_i0_152 rfl rfl ?_
    dsimp only [List.set]
    exact tail heq hgr res hh
  obtain ⟨e0, e1, e2, rk', e3, e4⟩ : dec2 = dec' ∧ i' 0 = k ∧ (k = 0 → g 0 = r.toInt64) ∧ ∃ rk', (catOk dec' ∧ rankC dec' rk') ∧ ∀ c, dec' c = none → dec c = none := by
    rcases hcase with ⟨p1, p2, p3⟩ | ⟨c, par, ms, D, p1, p2, p3, p4, p5⟩ | ⟨c, par, ms, p1, p2, p3, p4, p5, p6, p7, p8, p9, p10⟩
    · rcases hmcase with ⟨q1, q2, q3⟩ | ⟨c, par, ms, D, q1, -⟩ | ⟨c, par, ms, q1, -⟩
      · refine ⟨by rw [q3, p3], by rw [q2, p2], fun z => ?_, rk, by rw [p3]; exact ⟨l1, l2⟩, by rw [p3]; exact fun _ h => h⟩
        rw [p2] at z
        exact absurd z (by decide)
      · rw [p1] at q1
        cases q1
      · rw [p1] at q1
        cases q1
    · rcases hmcase with ⟨q1, -⟩ | ⟨c', par', ms', D', q1, q2, q3, q4⟩ | ⟨c', par', ms', q1, q2, -⟩
      · rw [p1] at q1
        cases q1
      · refine ⟨by rw [q4, p5], by rw [q3, p4], fun z => ?_, rk, by rw [p5]; exact ⟨l1, l2⟩, by rw [p5]; exact fun _ h => h⟩
        rw [p4] at z
        exact absurd z (by decide)
      · rw [p1] at q1
        have e := (Prod.mk.inj (Option.some.inj q1)).1
        rw [← e, p3] at q2
        cases q2
    · rcases hmcase with ⟨q1, -⟩ | ⟨c', par', ms', D', q1, q2, -⟩ | ⟨c', par', ms', q1, q2, q3, q4, q5⟩
      · rw [p1] at q1
        cases q1
      · rw [p1] at q1
        have e := (Prod.mk.inj (Option.some.inj q1)).1
        rw [← e, p3] at q2
        cases q2
      · rw [p1] at q1
        obtain ⟨ea1, eb⟩ := Prod.mk.inj (Option.some.inj q1)
        obtain ⟨eb1, ec1⟩ := Prod.mk.inj eb
        subst ea1
        subst eb1
        subst ec1
        refine ⟨by rw [q4, p9], by rw [q3, p8], fun _ => by rw [p10, q5], upN rk c (cnt dec), ?_, ?_⟩
        · rw [p9]
          exact ⟨catOk_upd l1 p5 p6 p7, rank_upd l2 p2 p3 p4⟩
        · rw [p9]
          intro y hy
          unfold updD at hy
          split at hy
          · cases hy
          · exact hy
  subst e0
  have M2 : MI b s2 v [] dec2 pl vs pr i' a' := ⟨hm2, n1, n2, fun c hc hd => by rw [n5 c hd]; exact m4 c hc (e4 c hd), (n3 18 (by decide)).trans m5, m6.sm (n3 15 (by decide)) (n4 12 (by decide)) (n4 13 (by decide)), m7.sm (n3 27 (by decide)) (n4 19 (by decide)) (n4 20 (by decide)) (n4 21 (by decide)) (n4 22 (by decide)), (n3 32 (by decide)).trans m8⟩
  exact ⟨s2, top1, sl1, some (.int k), some (.int r), ⟨v, [], dec2, pl, da', ea', rk', k0, vs, pr, i', a', X1.kept (fun x hx _ => hmf x (by omega)) (by omega), M2, ⟨(hmf q (by omega)).trans ((fr q (by omega) (by omega) (by omega) (by omega) (by omega)).trans hs), g, hg2⟩, ⟨e3.1, e3.2, l3, (fun c hc => by cases hc)⟩, by omega⟩, by omega, by omega, go e1 e2⟩
theorem st_variable (hd : 50 < d) (hcs : csOk cs ad) (hn : n + 2 < L) (hL : L ≤ 1536) (hq : q < b) (h : inv cs ad q L xs b σ top) : stp cs ad q L xs b d n 185 σ top sl v5 v6 := by
  obtain ⟨v, txt, dec, pl, da, ea, rk, k0, vs, pr, i, a, hX, hM, hOI, hLI, ht⟩ := h
  obtain ⟨x1, x2, x3, x4, x5, x6, x7, x8, x9⟩ := id hX
  obtain ⟨m1, m2, m3, m4, m5, m6, m7, m8⟩ := id hM
  obtain ⟨l1, l2, l3, l4⟩ := id hLI
  obtain ⟨hs, f, hof⟩ := id hOI
  obtain ⟨s1, k, g, vs', top1, sl1, hc, ht1, ht2, hsl, c1, c2, c3, hcf, hcase⟩ := l_variable (cs := cs) (d := d - 1) (top := top) (sl := sl) (by omega) (show b + 88 ≤ b + 113 by omega) (show b + 113 < top by omega) x2 x3 l4 x7 hof
  have fr : ∀ x, x < top → x ≠ b + 1 → x ≠ b + 113 → (x < b + 6 ∨ b + 9 ≤ x) → s1 x = σ x := fun x u1 u2 u3 u4 => hcf x u1 u2 u3 u4
  have hM1 := hM.kept (fun x u1 u2 => fr x (by omega) (by omega) (by omega) (by omega))
  obtain ⟨s2, i', a', r, vs2, hm, hm2, n1, n2, n3, hmf, hmcase⟩ := m_variable (cs := cs) (d := d - 1) (top := top1) (sl := sl1) (by omega) l4 hM1.1 m2 m6
  have hg2 : s2 (b + 113) = _ := (hmf _ (by omega)).trans c3
  have X1 : XI cs ad b s1 top1 v [] dec pl da ea k0 vs' pr := ⟨x1.kept (fun x hx => fr x (by omega) (by omega) (by omega) (by omega)), (fr _ (by omega) (by omega) (by omega) (by omega)).trans x2, c1, x4.kept (fr _ (by omega) (by omega) (by omega) (by omega)) (fr _ (by omega) (by omega) (by omega) (by omega)) (fr _ (by omega) (by omega) (by omega) (by omega)) (fun x u1 u2 => fr x (by omega) (by omega) (by omega) (by omega)) (by omega), (fr _ (by omega) (by omega) (by omega) (by omega)).trans x5, (fr _ (by omega) (by omega) (by omega) (by omega)).trans x6, c2, x8.kept (fun x u1 u2 => fr x (by omega) (by omega) (by omega) (by omega)), x9.kept (fun x u1 u2 => fr x (by omega) (by omega) (by omega) (by omega))⟩
  have tail : i' 0 = k → (k = 0 → g 0 = r.toInt64) → ∀ res, am_to cd_t cs d 0 574 [some (.ref q), some (.ref b), some (.ref (b + 88)), some (.ref (b + 113)), some (.int (ii n)), some (.int k), some (.int r)] [] s2 top1 sl1 res → am_to cd_t cs d 0 198 [some (.ref q), some (.ref b), some (.ref (b + 88)), some (.ref (b + 113)), some (.int (ii n)), some (.int k), some (.int r)] [] s2 top1 sl1 res := by
    intro heq hgr res hh
    refine x_n cd_i0_198 rfl rfl ?_
    refine x_callv (as' := []) cd_i0_199 hm2.1 (by omega) rfl rfl rfl rfl rfl rfl (m_thrown hm2) ?_
    refine x_n cd_i0_202 rfl rfl ?_
    refine x_icmp_t cd_i0_204 heq ?_
    refine x_n cd_i0_209 rfl rfl ?_
    by_cases hk : k = 0
    · refine x_if_f cd_i0_211 (fun z => z hk) ?_
      refine x_n cd_i0_214 rfl rfl ?_
      refine x_ic cd_i0_215 (z := ii 0) rfl ?_
      refine x_laload cd_i0_216 (i := 0) hg2 (by decide) (by decide) ?_
      rw [hgr hk]
      refine x_n cd_i0_217 rfl rfl ?_
      refine x_n cd_i0_219 rfl rfl ?_
      refine x_lcmp cd_i0_220 ?_
      refine x_if_t cd_i0_221 rfl ?_
      refine x_n cd_i0_226 rfl rfl ?_
      exact hh
    · refine x_if_t cd_i0_211 hk ?_
      refine x_n cd_i0_226 rfl rfl ?_
      exact hh
  have go : i' 0 = k → (k = 0 → g 0 = r.toInt64) → ∀ res, am_to cd_t cs d 0 574 [some (.ref q), some (.ref b), some (.ref (b + 88)), some (.ref (b + 113)), some (.int (ii n)), some (.int k), some (.int r)] [] s2 top1 sl1 res → am_to cd_t cs d 0 185 [some (.ref q), some (.ref b), some (.ref (b + 88)), some (.ref (b + 113)), some (.int (ii n)), v5, v6] [] σ top sl res := by
    intro heq hgr res hh
    refine x_n cd_i0_185 rfl rfl ?_
    refine x_n cd_i0_186 rfl rfl ?_
    refine x_calls (as := [.ref b, .ref (b + 113)]) cd_i0_187 (by omega) rfl rfl rfl rfl rfl rfl hc ?_
    refine x_n cd_i0_190 rfl rfl ?_
    dsimp only [List.set]
    refine x_n cd_i0_192 rfl rfl ?_
    refine x_callv (as' := []) cd_i0_193 hM1.1.1 (by omega) rfl rfl rfl rfl rfl rfl hm ?_
    refine x_n cd_i0_196 rfl rfl ?_
    dsimp only [List.set]
    exact tail heq hgr res hh
  obtain ⟨e0, e1, e2, e3⟩ : vs2 = vs' ∧ i' 0 = k ∧ (k = 0 → g 0 = r.toInt64) ∧ distV vs' := by
    rcases hcase with ⟨p1, p2, p3⟩ | ⟨p0, p1, p2, p3⟩ | ⟨p0, ⟨w, t⟩, p1, p2, p3, p4⟩
    · rcases hmcase with ⟨q1, q2, q3⟩ | ⟨q0, -⟩ | ⟨q0, -⟩
      · refine ⟨by rw [q3, p3], by rw [q2, p2], fun z => ?_, by rw [p3]; exact l3⟩
        rw [p2] at z
        exact absurd z (by decide)
      · exact absurd p1 q0
      · exact absurd p1 q0
    · rcases hmcase with ⟨q0, -⟩ | ⟨q0, q1, q2, q3⟩ | ⟨q0, w, q1, -⟩
      · exact absurd q0 p0
      · refine ⟨by rw [q3, p3], by rw [q2, p2], fun z => ?_, by rw [p3]; exact l3⟩
        rw [p2] at z
        exact absurd z (by decide)
      · rw [p1] at q1
        cases q1
    · rcases hmcase with ⟨q0, -⟩ | ⟨q0, q1, -⟩ | ⟨q0, w', q1, q2, q3, q4⟩
      · exact absurd q0 p0
      · rw [p1] at q1
        cases q1
      · rw [p1] at q1
        have e := Option.some.inj q1
        subst e
        exact ⟨by rw [q3, p3], by rw [q2, p2], fun _ => by rw [p4, q4], by rw [p3]; exact var_dist l3 p1⟩
  subst e0
  have M2 : MI b s2 v [] dec pl vs2 pr i' a' := ⟨hm2, n1, m3.sm (fun k u1 u2 => n3.2 k (by intro z; simp only [List.mem_cons, List.not_mem_nil, or_false] at z; omega)), m4.sm (n3.2 4 (by decide)), (n3.1 18 (by decide)).trans m5, n2, m7.sm (n3.1 27 (by decide)) (n3.2 19 (by decide)) (n3.2 20 (by decide)) (n3.2 21 (by decide)) (n3.2 22 (by decide)), (n3.1 32 (by decide)).trans m8⟩
  exact ⟨s2, top1, sl1, some (.int k), some (.int r), ⟨v, [], dec, pl, da, ea, rk, k0, vs2, pr, i', a', X1.kept (fun x hx _ => hmf x (by omega)) (by omega), M2, ⟨(hmf q (by omega)).trans ((fr q (by omega) (by omega) (by omega) (by omega)).trans hs), g, hg2⟩, ⟨l1, l2, e3, (fun c hc => by cases hc)⟩, by omega⟩, by omega, by omega, go e1 e2⟩
theorem st_check (hd : 50 < d) (hcs : csOk cs ad) (hn : n + 2 < L) (hL : L ≤ 1536) (hq : q < b) (h : inv cs ad q L xs b σ top) : stp cs ad q L xs b d n 344 σ top sl v5 v6 := by
  obtain ⟨v, txt, dec, pl, da, ea, rk, k0, vs, pr, i, a, hX, hM, hOI, hLI, ht⟩ := h
  obtain ⟨x1, x2, x3, x4, x5, x6, x7, x8, x9⟩ := id hX
  obtain ⟨m1, m2, m3, m4, m5, m6, m7, m8⟩ := id hM
  obtain ⟨l1, l2, l3, l4⟩ := id hLI
  obtain ⟨hs, f, hof⟩ := id hOI
  obtain ⟨s1, k, g, k1, v', top1, sl1, hc, ht1, ht2, hsl, c1, c2, c3, c4, hcf, hcase⟩ := l_check (cs := cs) (d := d - 1) (top := top) (sl := sl) (by omega) (show b + 88 ≤ b + 113 by omega) (show b + 113 < top by omega) hcs l4 l1 l2.1 x2 (show envX cs ad b top dec pl da ea vs σ from ⟨x1, x4, x7⟩) x6 x3 hof
  have fr : ∀ x, x < top → x ≠ b → x ≠ b + 1 → x ≠ b + 10 → x ≠ b + 113 → s1 x = σ x := fun x u1 u2 u3 u4 u5 => hcf x u1 u2 u3 u4 u5
  have hM1 := hM.kept (fun x u1 u2 => fr x (by omega) (by omega) (by omega) (by omega) (by omega))
  obtain ⟨s2, i', a', r, hm, hm2, n1, n2, n3, hmf, hmcase⟩ := m_check (cs := cs) (d := d - 1) (top := top1) (sl := sl1) (by omega) l4 l1 l2.1 l3 hM1.1 (show MEnv dec pl vs txt i a from ⟨m2, m3, m4, m5, m6⟩)
  have hg2 : s2 (b + 113) = _ := (hmf _ (by omega)).trans c4
  have tail : i' 0 = k → (k = 0 → g 0 = r.toInt64) → ∀ res, am_to cd_t cs d 0 574 [some (.ref q), some (.ref b), some (.ref (b + 88)), some (.ref (b + 113)), some (.int (ii n)), some (.int k), some (.int r)] [] s2 top1 sl1 res → am_to cd_t cs d 0 357 [some (.ref q), some (.ref b), some (.ref (b + 88)), some (.ref (b + 113)), some (.int (ii n)), some (.int k), some (.int r)] [] s2 top1 sl1 res := by
    intro heq hgr res hh
    refine x_n cd_i0_357 rfl rfl ?_
    refine x_callv (as' := []) cd_i0_358 hm2.1 (by omega) rfl rfl rfl rfl rfl rfl (m_thrown hm2) ?_
    refine x_n cd_i0_361 rfl rfl ?_
    refine x_icmp_t cd_i0_363 heq ?_
    refine x_n cd_i0_368 rfl rfl ?_
    by_cases hk : k = 0
    · refine x_if_f cd_i0_370 (fun z => z hk) ?_
      refine x_n cd_i0_373 rfl rfl ?_
      refine x_ic cd_i0_374 (z := ii 0) rfl ?_
      refine x_laload cd_i0_375 (i := 0) hg2 (by decide) (by decide) ?_
      rw [hgr hk]
      refine x_n cd_i0_376 rfl rfl ?_
      refine x_n cd_i0_378 rfl rfl ?_
      refine x_lcmp cd_i0_379 ?_
      refine x_if_t cd_i0_380 rfl ?_
      refine x_n cd_i0_385 rfl rfl ?_
      exact hh
    · refine x_if_t cd_i0_370 hk ?_
      refine x_n cd_i0_385 rfl rfl ?_
      exact hh
  have go : i' 0 = k → (k = 0 → g 0 = r.toInt64) → ∀ res, am_to cd_t cs d 0 574 [some (.ref q), some (.ref b), some (.ref (b + 88)), some (.ref (b + 113)), some (.int (ii n)), some (.int k), some (.int r)] [] s2 top1 sl1 res → am_to cd_t cs d 0 344 [some (.ref q), some (.ref b), some (.ref (b + 88)), some (.ref (b + 113)), some (.int (ii n)), v5, v6] [] σ top sl res := by
    intro heq hgr res hh
    refine x_n cd_i0_344 rfl rfl ?_
    refine x_n cd_i0_345 rfl rfl ?_
    refine x_calls (as := [.ref b, .ref (b + 113)]) cd_i0_346 (by omega) rfl rfl rfl rfl rfl rfl hc ?_
    refine x_n cd_i0_349 rfl rfl ?_
    dsimp only [List.set]
    refine x_n cd_i0_351 rfl rfl ?_
    refine x_callv (as' := []) cd_i0_352 hM1.1.1 (by omega) rfl rfl rfl rfl rfl rfl hm ?_
    refine x_n cd_i0_355 rfl rfl ?_
    dsimp only [List.set]
    exact tail heq hgr res hh
  obtain ⟨v2, e0, e1, e2, e3⟩ : ∃ v2 : Int32, v' = .int v2 ∧ i' 0 = k ∧ (k = 0 → g 0 = r.toInt64) ∧ i' 32 = v2 := by
    rcases hcase with ⟨p1, p2, p3⟩ | ⟨R, p1, p2, p3, p4, p5⟩
    · rcases hmcase with ⟨q1, q2, q3⟩ | ⟨R, q1, -⟩
      · refine ⟨v, p3, by rw [q2, p2], fun z => ?_, q3.trans m8⟩
        rw [p2] at z
        exact absurd z (by decide)
      · rw [p1] at q1
        cases q1
    · rcases hmcase with ⟨q1, -⟩ | ⟨R', q1, q2, q3, q4⟩
      · rw [p1] at q1
        cases q1
      · rw [p1] at q1
        have e := Option.some.inj q1
        subst e
        exact ⟨ii R.2, p4, by rw [q2, p3], fun _ => by rw [p5, q4], q3⟩
  subst e0
  have X1 : XI cs ad b s1 top1 v2 [] dec pl da ea k1 vs pr := ⟨x1.kept (fun x hx => fr x (by omega) (by omega) (by omega) (by omega) (by omega)), c3, c1, x4.kept (fr _ (by omega) (by omega) (by omega) (by omega) (by omega)) (fr _ (by omega) (by omega) (by omega) (by omega) (by omega)) (fr _ (by omega) (by omega) (by omega) (by omega) (by omega)) (fun x u1 u2 => fr x (by omega) (by omega) (by omega) (by omega) (by omega)) (by omega), (fr _ (by omega) (by omega) (by omega) (by omega) (by omega)).trans x5, c2, x7.kept (fun x u1 u2 => fr x (by omega) (by omega) (by omega) (by omega) (by omega)), x8.kept (fun x u1 u2 => fr x (by omega) (by omega) (by omega) (by omega) (by omega)), x9.kept (fun x u1 u2 => fr x (by omega) (by omega) (by omega) (by omega) (by omega))⟩
  have M2 : MI b s2 v2 [] dec pl vs pr i' a' := ⟨hm2, ⟨n3, by decide, fun j hj => absurd hj (Nat.not_lt_zero j)⟩, m3.sm (fun k u1 u2 => n2 k (by omega) (by omega)), m4.sm (n2 4 (by decide) (by decide)), (n1 18 (by decide)).trans m5, m6.sm (n1 15 (by decide)) (n2 12 (by decide) (by decide)) (n2 13 (by decide) (by decide)), m7.sm (n1 27 (by decide)) (n2 19 (by decide) (by decide)) (n2 20 (by decide) (by decide)) (n2 21 (by decide) (by decide)) (n2 22 (by decide) (by decide)), e3⟩
  exact ⟨s2, top1, sl1, some (.int k), some (.int r), ⟨v2, [], dec, pl, da, ea, rk, k1, vs, pr, i', a', X1.kept (fun x hx _ => hmf x (by omega)) (by omega), M2, ⟨(hmf q (by omega)).trans ((fr q (by omega) (by omega) (by omega) (by omega) (by omega)).trans hs), g, hg2⟩, ⟨l1, l2, l3, (fun c hc => by cases hc)⟩, by omega⟩, by omega, by omega, go e1 e2⟩
theorem st_complete (hd : 50 < d) (hcs : csOk cs ad) (hn : n + 2 < L) (hL : L ≤ 1536) (hq : q < b) (h : inv cs ad q L xs b σ top) : stp cs ad q L xs b d n 276 σ top sl v5 v6 := by
  obtain ⟨v, txt, dec, pl, da, ea, rk, k0, vs, pr, i, a, hX, hM, hOI, hLI, ht⟩ := h
  obtain ⟨x1, x2, x3, x4, x5, x6, x7, x8, x9⟩ := id hX
  obtain ⟨m1, m2, m3, m4, m5, m6, m7, m8⟩ := id hM
  obtain ⟨l1, l2, l3, l4⟩ := id hLI
  obtain ⟨hs, f, hof⟩ := id hOI
  obtain ⟨s1, k, g, pr', top1, sl1, hc, ht1, ht2, hsl, c1, c2, c3, hcf, hcase⟩ := l_complete (cs := cs) (d := d - 1) (top := top) (sl := sl) (t := xs (n + 1)) (w := xs (n + 2)) (by omega) (show b + 88 ≤ b + 113 by omega) (show b + 113 < top by omega) hcs l1 l2.1 l3 x2 x1 x4 x7 x9 x8 hof
  have fr : ∀ x, x < top → (x < b + 11 ∨ b + 88 ≤ x) → x ≠ b + 113 → s1 x = σ x := fun x u1 u2 u3 => hcf x u1 u2 u3
  have hM1 := hM.kept (fun x u1 u2 => fr x (by omega) (by omega) (by omega))
  have hs1 : s1 q = _ := (fr q (by omega) (by omega) (by omega)).trans hs
  obtain ⟨s2, i', a', r, hm, hm2, n1, hmf, hmcase⟩ := m_complete (cs := cs) (d := d - 1) (top := top1) (sl := sl1) (t := xs (n + 1)) (w := xs (n + 2)) (by omega) l1 l2.1 l3 hM1.1 m3 m5 m6
  have hg2 : s2 (b + 113) = _ := (hmf _ (by omega)).trans c3
  have X1 : XI cs ad b s1 top1 v txt dec pl da ea k0 vs pr' := ⟨x1.kept (fun x hx => fr x (by omega) (by omega) (by omega)), (fr _ (by omega) (by omega) (by omega)).trans x2, x3.kept (fr _ (by omega) (by omega) (by omega)) (fr _ (by omega) (by omega) (by omega)), x4.kept (fr _ (by omega) (by omega) (by omega)) (fr _ (by omega) (by omega) (by omega)) (fr _ (by omega) (by omega) (by omega)) (fun x u1 u2 => fr x (by omega) (by omega) (by omega)) (by omega), (fr _ (by omega) (by omega) (by omega)).trans x5, (fr _ (by omega) (by omega) (by omega)).trans x6, x7.kept (fun x u1 u2 => fr x (by omega) (by omega) (by omega)), c1, c2⟩
  have tail : i' 0 = k → (k = 0 → g 0 = r.toInt64) → ∀ res, am_to cd_t cs d 0 574 [some (.ref q), some (.ref b), some (.ref (b + 88)), some (.ref (b + 113)), some (.int (ii n)), some (.int k), some (.int r)] [] s2 top1 sl1 res → am_to cd_t cs d 0 313 [some (.ref q), some (.ref b), some (.ref (b + 88)), some (.ref (b + 113)), some (.int (ii n)), some (.int k), some (.int r)] [] s2 top1 sl1 res := by
    intro heq hgr res hh
    refine x_n cd_i0_313 rfl rfl ?_
    refine x_callv (as' := []) cd_i0_314 hm2.1 (by omega) rfl rfl rfl rfl rfl rfl (m_thrown hm2) ?_
    refine x_n cd_i0_317 rfl rfl ?_
    refine x_icmp_t cd_i0_319 heq ?_
    refine x_n cd_i0_324 rfl rfl ?_
    by_cases hk : k = 0
    · refine x_if_f cd_i0_326 (fun z => z hk) ?_
      refine x_n cd_i0_329 rfl rfl ?_
      refine x_ic cd_i0_330 (z := ii 0) rfl ?_
      refine x_laload cd_i0_331 (i := 0) hg2 (by decide) (by decide) ?_
      rw [hgr hk]
      refine x_n cd_i0_332 rfl rfl ?_
      refine x_n cd_i0_334 rfl rfl ?_
      refine x_lcmp cd_i0_335 ?_
      refine x_if_t cd_i0_336 rfl ?_
      refine x_n cd_i0_341 rfl rfl ?_
      exact hh
    · refine x_if_t cd_i0_326 hk ?_
      refine x_n cd_i0_341 rfl rfl ?_
      exact hh
  have go : i' 0 = k → (k = 0 → g 0 = r.toInt64) → ∀ res, am_to cd_t cs d 0 574 [some (.ref q), some (.ref b), some (.ref (b + 88)), some (.ref (b + 113)), some (.int (ii n)), some (.int k), some (.int r)] [] s2 top1 sl1 res → am_to cd_t cs d 0 276 [some (.ref q), some (.ref b), some (.ref (b + 88)), some (.ref (b + 113)), some (.int (ii n)), v5, v6] [] σ top sl res := by
    intro heq hgr res hh
    refine x_n cd_i0_276 rfl rfl ?_
    refine x_n cd_i0_277 rfl rfl ?_
    refine x_n cd_i0_278 rfl rfl ?_
    refine x_ic cd_i0_280 (z := ii 1) rfl ?_
    refine x_iadd cd_i0_281 (ii_add _ 1) ?_
    refine x_iaload0 cd_i0_282 hs (by omega) (by omega) ?_
    refine x_n cd_i0_283 rfl rfl ?_
    refine x_n cd_i0_284 rfl rfl ?_
    refine x_ic cd_i0_286 (z := ii 2) rfl ?_
    refine x_iadd cd_i0_287 (ii_add _ 2) ?_
    refine x_iaload0 cd_i0_288 hs (by omega) (by omega) ?_
    refine x_n cd_i0_289 rfl rfl ?_
    refine x_calls (as := [.ref b, .int (xs (n + 1)), .int (xs (n + 2)), .ref (b + 113)]) cd_i0_290 (by omega) rfl rfl rfl rfl rfl rfl hc ?_
    refine x_n cd_i0_293 rfl rfl ?_
    dsimp only [List.set]
    refine x_n cd_i0_295 rfl rfl ?_
    refine x_n cd_i0_296 rfl rfl ?_
    refine x_n cd_i0_297 rfl rfl ?_
    refine x_ic cd_i0_299 (z := ii 1) rfl ?_
    refine x_iadd cd_i0_300 (ii_add _ 1) ?_
    refine x_iaload0 cd_i0_301 hs1 (by omega) (by omega) ?_
    refine x_n cd_i0_302 rfl rfl ?_
    refine x_n cd_i0_303 rfl rfl ?_
    refine x_ic cd_i0_305 (z := ii 2) rfl ?_
    refine x_iadd cd_i0_306 (ii_add _ 2) ?_
    refine x_iaload0 cd_i0_307 hs1 (by omega) (by omega) ?_
    refine x_callv (as' := [.int (xs (n + 1)), .int (xs (n + 2))]) cd_i0_308 hM1.1.1 (by omega) rfl rfl rfl rfl rfl rfl hm ?_
    refine x_n cd_i0_311 rfl rfl ?_
    dsimp only [List.set]
    exact tail heq hgr res hh
  obtain ⟨e1, e2, e3⟩ : i' 0 = k ∧ (k = 0 → g 0 = r.toInt64) ∧ M_pr i' a' pr' := by
    rcases hcase with ⟨p1, p2, p3⟩ | ⟨p1, p2, K, p3, p4, p5⟩
    · rcases hmcase with ⟨q1, q2, q3, q4⟩ | ⟨q1, -⟩
      · refine ⟨by rw [q2, p2], fun z => ?_, ?_⟩
        · rw [p2] at z
          exact absurd z (by decide)
        · rw [p3]
          exact m7.sm q3 (by rw [q4]) (by rw [q4]) (by rw [q4]) (by rw [q4])
      · exact absurd q1 p1
    · rcases hmcase with ⟨q1, -⟩ | ⟨q1, q2, K', q3, q4, q5⟩
      · exact absurd p1 q1
      · have e : catK K' ((xs (n + 2)).toNatClampNeg + 1) = catK K ((xs (n + 2)).toNatClampNeg + 1) := catK_congr (Kspec_uni q3 p3)
        rw [e, ← p4] at q4 q5
        exact ⟨by rw [q2, p2], fun _ => by rw [p5, q5], q4⟩
  have M2 : MI b s2 v txt dec pl vs pr' i' a' := ⟨hm2, m2.sm (n1.1 2 (by decide)) (n1.2 1 (by decide)), m3.sm (fun k u1 u2 => n1.2 k (by omega)), m4.sm (n1.2 4 (by decide)), (n1.1 18 (by decide)).trans m5, m6.sm (n1.1 15 (by decide)) (n1.2 12 (by decide)) (n1.2 13 (by decide)), e3, (n1.1 32 (by decide)).trans m8⟩
  exact ⟨s2, top1, sl1, some (.int k), some (.int r), ⟨v, txt, dec, pl, da, ea, rk, k0, vs, pr', i', a', X1.kept (fun x hx _ => hmf x (by omega)) (by omega), M2, ⟨(hmf q (by omega)).trans hs1, g, hg2⟩, hLI, by omega⟩, by omega, by omega, go e1 e2⟩
end SK
