theorem M_cat.sm9 {i i' : Nat → Int32} {a a' : Nat → Nat → Int32} {dec : Nat → Option Dec} (h : M_cat a dec) (hs : M_same [0, 2] [1] i i' a a') : M_cat a' dec := by
  have e : ∀ k, 2 ≤ k → a' k = a k := fun k hk => hs.2 k (by intro z; rw [List.mem_singleton] at z; omega)
  intro c hc
  obtain ⟨h1, h2⟩ := h c hc
  rw [e 2 (by decide), e 3 (by decide), e 4 (by decide)]
  refine ⟨h1, fun D hD => ?_⟩
  obtain ⟨g1, g2, g3, g4, g5⟩ := h2 D hD
  refine ⟨g1, g2, g3, g4, fun k hk => ?_⟩
  have := g5 k hk
  unfold M_mem at this ⊢
  rw [e 5 (by decide), e 6 (by decide), e 7 (by decide), e 8 (by decide), e 9 (by decide), e 10 (by decide), e 11 (by decide)]
  exact this
section SJ
variable {cs : Nat → Value} {ad : Nat → Nat} {q L : Nat} {xs : Nat → Int32} {b d n : Nat} {σ : am_H} {top sl : Nat} {v5 v6 : Option Value}
theorem st_fits (hd : 50 < d) (hcs : csOk cs ad) (hn : n + 2 < L) (hL : L ≤ 1536) (hq : q < b) (h : inv cs ad q L xs b σ top) : stp cs ad q L xs b d n 401 σ top sl v5 v6 := by
  obtain ⟨v, txt, dec, pl, da, ea, rk, k0, vs, pr, i, a, hX, hM, hOI, hLI, ht⟩ := h
  obtain ⟨x1, x2, x3, x4, x5, x6, x7, x8, x9⟩ := id hX
  obtain ⟨m1, m2, m3, m4, m5, m6, m7, m8⟩ := id hM
  obtain ⟨l1, l2, l3, l4⟩ := id hLI
  have hs := hOI.1
  have hc := x_fits (cs := cs) (d := d - 1) (top := top) (sl := sl) (x := xs (n + 1)) (y := xs (n + 2)) (by omega) x2 x4.1 x4.2.2.2.1
  have hm := m_fits (cs := cs) (d := d - 1) (top := top) (sl := sl) (x := xs (n + 1)) (y := xs (n + 2)) (by omega) m1 m3 l2.1
  refine ⟨am_up σ (b + 88) (.inr (.inl (11, mo_f (b + 88) (upd i 0 0)))), top, sl, v5, v6, ⟨v, txt, dec, pl, da, ea, rk, k0, vs, pr, upd i 0 0, a, hX.kept (fun x hx _ => am_up_ne _ _ (by omega)) ht, hM.zero (m1.put (upd i 0 0)) (fun k hk => upd_ne hk), hOI.kept hq (fun x hx => am_up_ne _ _ (by omega)), hLI, ht⟩, by omega, by omega, fun res hh => ?_⟩
  refine x_n cd_i0_401 rfl rfl ?_
  refine x_n cd_i0_402 rfl rfl ?_
  refine x_n cd_i0_403 rfl rfl ?_
  refine x_ic cd_i0_405 (z := ii 1) rfl ?_
  refine x_iadd cd_i0_406 (ii_add _ 1) ?_
  refine x_iaload0 cd_i0_407 hs (by omega) (by omega) ?_
  refine x_n cd_i0_408 rfl rfl ?_
  refine x_n cd_i0_409 rfl rfl ?_
  refine x_ic cd_i0_411 (z := ii 2) rfl ?_
  refine x_iadd cd_i0_412 (ii_add _ 2) ?_
  refine x_iaload0 cd_i0_413 hs (by omega) (by omega) ?_
  refine x_callv (as' := [.int (xs (n + 1)), .int (xs (n + 2))]) cd_i0_414 x2 (by omega) rfl rfl rfl rfl rfl rfl hc ?_
  refine x_n cd_i0_417 rfl rfl ?_
  refine x_n cd_i0_418 rfl rfl ?_
  refine x_n cd_i0_419 rfl rfl ?_
  refine x_ic cd_i0_421 (z := ii 1) rfl ?_
  refine x_iadd cd_i0_422 (ii_add _ 1) ?_
  refine x_iaload0 cd_i0_423 hs (by omega) (by omega) ?_
  refine x_n cd_i0_424 rfl rfl ?_
  refine x_n cd_i0_425 rfl rfl ?_
  refine x_ic cd_i0_427 (z := ii 2) rfl ?_
  refine x_iadd cd_i0_428 (ii_add _ 2) ?_
  refine x_iaload0 cd_i0_429 hs (by omega) (by omega) ?_
  refine x_callv (as' := [.int (xs (n + 1)), .int (xs (n + 2))]) cd_i0_430 m1.1 (by omega) rfl rfl rfl rfl rfl rfl hm ?_
  exact x_icmp_t cd_i0_433 rfl hh
theorem st_proposal (hd : 50 < d) (hcs : csOk cs ad) (hn : n + 2 < L) (hL : L ≤ 1536) (hq : q < b) (h : inv cs ad q L xs b σ top) : stp cs ad q L xs b d n 438 σ top sl v5 v6 := by
  obtain ⟨v, txt, dec, pl, da, ea, rk, k0, vs, pr, i, a, hX, hM, hOI, hLI, ht⟩ := h
  obtain ⟨x1, x2, x3, x4, x5, x6, x7, x8, x9⟩ := id hX
  obtain ⟨m1, m2, m3, m4, m5, m6, m7, m8⟩ := id hM
  obtain ⟨l1, l2, l3, l4⟩ := id hLI
  have hs := hOI.1
  have hc := x_proposal (cs := cs) (d := d - 1) (top := top) (sl := sl) (i := xs (n + 1)) (w := xs (n + 2)) (by omega) x2 x8.pr
  have hm := m_proposal (cs := cs) (d := d - 1) (top := top) (sl := sl) (q := xs (n + 1)) (w := xs (n + 2)) (by omega) m1 m7
  refine ⟨am_up σ (b + 88) (.inr (.inl (11, mo_f (b + 88) (upd i 0 0)))), top, sl, v5, v6, ⟨v, txt, dec, pl, da, ea, rk, k0, vs, pr, upd i 0 0, a, hX.kept (fun x hx _ => am_up_ne _ _ (by omega)) ht, hM.zero (m1.put (upd i 0 0)) (fun k hk => upd_ne hk), hOI.kept hq (fun x hx => am_up_ne _ _ (by omega)), hLI, ht⟩, by omega, by omega, fun res hh => ?_⟩
  refine x_n cd_i0_438 rfl rfl ?_
  refine x_n cd_i0_439 rfl rfl ?_
  refine x_n cd_i0_440 rfl rfl ?_
  refine x_ic cd_i0_442 (z := ii 1) rfl ?_
  refine x_iadd cd_i0_443 (ii_add _ 1) ?_
  refine x_iaload0 cd_i0_444 hs (by omega) (by omega) ?_
  refine x_n cd_i0_445 rfl rfl ?_
  refine x_n cd_i0_446 rfl rfl ?_
  refine x_ic cd_i0_448 (z := ii 2) rfl ?_
  refine x_iadd cd_i0_449 (ii_add _ 2) ?_
  refine x_iaload0 cd_i0_450 hs (by omega) (by omega) ?_
  refine x_callv (as' := [.int (xs (n + 1)), .int (xs (n + 2))]) cd_i0_451 x2 (by omega) rfl rfl rfl rfl rfl rfl hc ?_
  refine x_n cd_i0_454 rfl rfl ?_
  refine x_n cd_i0_455 rfl rfl ?_
  refine x_n cd_i0_456 rfl rfl ?_
  refine x_ic cd_i0_458 (z := ii 1) rfl ?_
  refine x_iadd cd_i0_459 (ii_add _ 1) ?_
  refine x_iaload0 cd_i0_460 hs (by omega) (by omega) ?_
  refine x_n cd_i0_461 rfl rfl ?_
  refine x_n cd_i0_462 rfl rfl ?_
  refine x_ic cd_i0_464 (z := ii 2) rfl ?_
  refine x_iadd cd_i0_465 (ii_add _ 2) ?_
  refine x_iaload0 cd_i0_466 hs (by omega) (by omega) ?_
  refine x_callv (as' := [.int (xs (n + 1)), .int (xs (n + 2))]) cd_i0_467 m1.1 (by omega) rfl rfl rfl rfl rfl rfl hm ?_
  exact x_icmp_t cd_i0_470 rfl hh
theorem st_letter (hd : 50 < d) (hcs : csOk cs ad) (hn : n + 2 < L) (hL : L ≤ 1536) (hq : q < b) (h : inv cs ad q L xs b σ top) : stp cs ad q L xs b d n 475 σ top sl v5 v6 := by
  obtain ⟨v, txt, dec, pl, da, ea, rk, k0, vs, pr, i, a, hX, hM, hOI, hLI, ht⟩ := h
  obtain ⟨x1, x2, x3, x4, x5, x6, x7, x8, x9⟩ := id hX
  obtain ⟨m1, m2, m3, m4, m5, m6, m7, m8⟩ := id hM
  obtain ⟨l1, l2, l3, l4⟩ := id hLI
  have hs := hOI.1
  have hc := x_letter (cs := cs) (d := d - 1) (top := top) (sl := sl) (i := xs (n + 1)) (k := xs (n + 2)) (by omega) x2 x8.pr
  have hm := m_letter (cs := cs) (d := d - 1) (top := top) (sl := sl) (q := xs (n + 1)) (k := xs (n + 2)) (by omega) m1 m7
  refine ⟨am_up σ (b + 88) (.inr (.inl (11, mo_f (b + 88) (upd i 0 0)))), top, sl, v5, v6, ⟨v, txt, dec, pl, da, ea, rk, k0, vs, pr, upd i 0 0, a, hX.kept (fun x hx _ => am_up_ne _ _ (by omega)) ht, hM.zero (m1.put (upd i 0 0)) (fun k hk => upd_ne hk), hOI.kept hq (fun x hx => am_up_ne _ _ (by omega)), hLI, ht⟩, by omega, by omega, fun res hh => ?_⟩
  refine x_n cd_i0_475 rfl rfl ?_
  refine x_n cd_i0_476 rfl rfl ?_
  refine x_n cd_i0_477 rfl rfl ?_
  refine x_ic cd_i0_479 (z := ii 1) rfl ?_
  refine x_iadd cd_i0_480 (ii_add _ 1) ?_
  refine x_iaload0 cd_i0_481 hs (by omega) (by omega) ?_
  refine x_n cd_i0_482 rfl rfl ?_
  refine x_n cd_i0_483 rfl rfl ?_
  refine x_ic cd_i0_485 (z := ii 2) rfl ?_
  refine x_iadd cd_i0_486 (ii_add _ 2) ?_
  refine x_iaload0 cd_i0_487 hs (by omega) (by omega) ?_
  refine x_callv (as' := [.int (xs (n + 1)), .int (xs (n + 2))]) cd_i0_488 x2 (by omega) rfl rfl rfl rfl rfl rfl hc ?_
  refine x_n cd_i0_491 rfl rfl ?_
  refine x_n cd_i0_492 rfl rfl ?_
  refine x_n cd_i0_493 rfl rfl ?_
  refine x_ic cd_i0_495 (z := ii 1) rfl ?_
  refine x_iadd cd_i0_496 (ii_add _ 1) ?_
  refine x_iaload0 cd_i0_497 hs (by omega) (by omega) ?_
  refine x_n cd_i0_498 rfl rfl ?_
  refine x_n cd_i0_499 rfl rfl ?_
  refine x_ic cd_i0_501 (z := ii 2) rfl ?_
  refine x_iadd cd_i0_502 (ii_add _ 2) ?_
  refine x_iaload0 cd_i0_503 hs (by omega) (by omega) ?_
  refine x_callv (as' := [.int (xs (n + 1)), .int (xs (n + 2))]) cd_i0_504 m1.1 (by omega) rfl rfl rfl rfl rfl rfl hm ?_
  exact x_icmp_t cd_i0_507 rfl hh
theorem st_members (hd : 50 < d) (hcs : csOk cs ad) (hn : n + 2 < L) (hL : L ≤ 1536) (hq : q < b) (h : inv cs ad q L xs b σ top) : stp cs ad q L xs b d n 512 σ top sl v5 v6 := by
  obtain ⟨v, txt, dec, pl, da, ea, rk, k0, vs, pr, i, a, hX, hM, hOI, hLI, ht⟩ := h
  obtain ⟨x1, x2, x3, x4, x5, x6, x7, x8, x9⟩ := id hX
  obtain ⟨m1, m2, m3, m4, m5, m6, m7, m8⟩ := id hM
  obtain ⟨l1, l2, l3, l4⟩ := id hLI
  have hs := hOI.1
  have hc := x_members (cs := cs) (d := d - 1) (top := top) (sl := sl) (c := xs (n + 1)) (by omega) x2 x4
  have hm := m_members (cs := cs) (d := d - 1) (top := top) (sl := sl) (c := xs (n + 1)) (by omega) m1 m3
  refine ⟨am_up σ (b + 88) (.inr (.inl (11, mo_f (b + 88) (upd i 0 0)))), top, sl, v5, v6, ⟨v, txt, dec, pl, da, ea, rk, k0, vs, pr, upd i 0 0, a, hX.kept (fun x hx _ => am_up_ne _ _ (by omega)) ht, hM.zero (m1.put (upd i 0 0)) (fun k hk => upd_ne hk), hOI.kept hq (fun x hx => am_up_ne _ _ (by omega)), hLI, ht⟩, by omega, by omega, fun res hh => ?_⟩
  refine x_n cd_i0_512 rfl rfl ?_
  refine x_n cd_i0_513 rfl rfl ?_
  refine x_n cd_i0_514 rfl rfl ?_
  refine x_ic cd_i0_516 (z := ii 1) rfl ?_
  refine x_iadd cd_i0_517 (ii_add _ 1) ?_
  refine x_iaload0 cd_i0_518 hs (by omega) (by omega) ?_
  refine x_callv (as' := [.int (xs (n + 1))]) cd_i0_519 x2 (by omega) rfl rfl rfl rfl rfl rfl hc ?_
  refine x_n cd_i0_522 rfl rfl ?_
  refine x_n cd_i0_523 rfl rfl ?_
  refine x_n cd_i0_524 rfl rfl ?_
  refine x_ic cd_i0_526 (z := ii 1) rfl ?_
  refine x_iadd cd_i0_527 (ii_add _ 1) ?_
  refine x_iaload0 cd_i0_528 hs (by omega) (by omega) ?_
  refine x_callv (as' := [.int (xs (n + 1))]) cd_i0_529 m1.1 (by omega) rfl rfl rfl rfl rfl rfl hm ?_
  exact x_icmp_t cd_i0_532 rfl hh
theorem st_checked (hd : 50 < d) (hcs : csOk cs ad) (hn : n + 2 < L) (hL : L ≤ 1536) (hq : q < b) (h : inv cs ad q L xs b σ top) : stp cs ad q L xs b d n 388 σ top sl v5 v6 := by
  obtain ⟨v, txt, dec, pl, da, ea, rk, k0, vs, pr, i, a, hX, hM, hOI, hLI, ht⟩ := h
  obtain ⟨x1, x2, x3, x4, x5, x6, x7, x8, x9⟩ := id hX
  obtain ⟨m1, m2, m3, m4, m5, m6, m7, m8⟩ := id hM
  obtain ⟨l1, l2, l3, l4⟩ := id hLI
  have hs := hOI.1
  have hc := x_checked (cs := cs) (d := d - 1) (top := top) (sl := sl) x2
  have hm := m_checked (cs := cs) (d := d - 1) (top := top) (sl := sl) m1
  refine ⟨am_up σ (b + 88) (.inr (.inl (11, mo_f (b + 88) (upd i 0 0)))), top, sl, v5, v6, ⟨v, txt, dec, pl, da, ea, rk, k0, vs, pr, upd i 0 0, a, hX.kept (fun x hx _ => am_up_ne _ _ (by omega)) ht, hM.zero (m1.put (upd i 0 0)) (fun k hk => upd_ne hk), hOI.kept hq (fun x hx => am_up_ne _ _ (by omega)), hLI, ht⟩, by omega, by omega, fun res hh => ?_⟩
  refine x_n cd_i0_388 rfl rfl ?_
  refine x_callv (as' := []) cd_i0_389 x2 (by omega) rfl rfl rfl rfl rfl rfl hc ?_
  refine x_n cd_i0_392 rfl rfl ?_
  refine x_callv (as' := []) cd_i0_393 m1.1 (by omega) rfl rfl rfl rfl rfl rfl hm ?_
  exact x_icmp_t cd_i0_396 m8.symm hh
theorem st_seen (hd : 50 < d) (hcs : csOk cs ad) (hn : n + 2 < L) (hL : L ≤ 1536) (hq : q < b) (h : inv cs ad q L xs b σ top) : stp cs ad q L xs b d n 537 σ top sl v5 v6 := by
  obtain ⟨v, txt, dec, pl, da, ea, rk, k0, vs, pr, i, a, hX, hM, hOI, hLI, ht⟩ := h
  obtain ⟨x1, x2, x3, x4, x5, x6, x7, x8, x9⟩ := id hX
  obtain ⟨m1, m2, m3, m4, m5, m6, m7, m8⟩ := id hM
  obtain ⟨l1, l2, l3, l4⟩ := id hLI
  have hs := hOI.1
  have hc := x_seen (cs := cs) (d := d - 1) (top := top) (sl := sl) (c := xs (n + 1)) (w := xs (n + 2)) (by omega) x2 hcs x4 l1 l2.1
  obtain ⟨σ', hm, hm2, hf⟩ := m_seen (cs := cs) (d := d - 1) (top := top) (sl := sl) (c := xs (n + 1)) (w := xs (n + 2)) (by omega) m1 m3 l1 l2.1 m5
  refine ⟨σ', top, sl, v5, v6, ⟨v, txt, dec, pl, da, ea, rk, k0, vs, pr, upd i 0 (ii 0), a, hX.kept (fun x hx _ => hf x (by omega)) ht, hM.zero hm2 (fun k hk => upd_ne hk), hOI.kept hq (fun x hx => hf x (by omega)), hLI, ht⟩, by omega, by omega, fun res hh => ?_⟩
  refine x_n cd_i0_537 rfl rfl ?_
  refine x_n cd_i0_538 rfl rfl ?_
  refine x_n cd_i0_539 rfl rfl ?_
  refine x_ic cd_i0_541 (z := ii 1) rfl ?_
  refine x_iadd cd_i0_542 (ii_add _ 1) ?_
  refine x_iaload0 cd_i0_543 hs (by omega) (by omega) ?_
  refine x_n cd_i0_544 rfl rfl ?_
  refine x_n cd_i0_545 rfl rfl ?_
  refine x_ic cd_i0_547 (z := ii 2) rfl ?_
  refine x_iadd cd_i0_548 (ii_add _ 2) ?_
  refine x_iaload0 cd_i0_549 hs (by omega) (by omega) ?_
  refine x_callv (as' := [.int (xs (n + 1)), .int (xs (n + 2))]) cd_i0_550 x2 (by omega) rfl rfl rfl rfl rfl rfl hc ?_
  refine x_n cd_i0_553 rfl rfl ?_
  refine x_n cd_i0_554 rfl rfl ?_
  refine x_n cd_i0_555 rfl rfl ?_
  refine x_ic cd_i0_557 (z := ii 1) rfl ?_
  refine x_iadd cd_i0_558 (ii_add _ 1) ?_
  refine x_iaload0 cd_i0_559 hs (by omega) (by omega) ?_
  refine x_n cd_i0_560 rfl rfl ?_
  refine x_n cd_i0_561 rfl rfl ?_
  refine x_ic cd_i0_563 (z := ii 2) rfl ?_
  refine x_iadd cd_i0_564 (ii_add _ 2) ?_
  refine x_iaload0 cd_i0_565 hs (by omega) (by omega) ?_
  refine x_callv (as' := [.int (xs (n + 1)), .int (xs (n + 2))]) cd_i0_566 m1.1 (by omega) rfl rfl rfl rfl rfl rfl hm ?_
  exact x_icmp_t cd_i0_569 rfl hh
theorem st_put (hd : 50 < d) (hcs : csOk cs ad) (hn : n + 2 < L) (hL : L ≤ 1536) (hq : q < b) (h : inv cs ad q L xs b σ top) : stp cs ad q L xs b d n 104 σ top sl v5 v6 := by
  obtain ⟨v, txt, dec, pl, da, ea, rk, k0, vs, pr, i, a, hX, hM, hOI, hLI, ht⟩ := h
  obtain ⟨x1, x2, x3, x4, x5, x6, x7, x8, x9⟩ := id hX
  obtain ⟨m1, m2, m3, m4, m5, m6, m7, m8⟩ := id hM
  obtain ⟨l1, l2, l3, l4⟩ := id hLI
  have hs := hOI.1
  obtain ⟨s1, hc, hc2, hcf⟩ := x_put (cs := cs) (d := d - 1) (top := top) (sl := sl) (w := xs (n + 1)) (n := xs (n + 2)) (by omega) x2 x3
  have hM1 := hM.kept (fun x u1 u2 => hcf x (by omega) (by omega))
  obtain ⟨s2, i', a', hm, hm2, hm3, hm4, hm5, hmf⟩ := m_put (cs := cs) (d := d - 1) (top := top) (sl := sl) (w := xs (n + 1)) (n := xs (n + 2)) (by omega) hM1.1 m2
  have hs1 : s1 q = _ := (hcf q (by omega) (by omega)).trans hs
  have X1 : XI cs ad b s1 top v ((putM txt (xs (n + 1)) (xs (n + 2))).getD txt) dec pl da ea k0 vs pr := ⟨x1.kept (fun x hx => hcf x (by omega) (by omega)), (hcf _ (by omega) (by omega)).trans x2, hc2, x4.kept (hcf _ (by omega) (by omega)) (hcf _ (by omega) (by omega)) (hcf _ (by omega) (by omega)) (fun x u1 u2 => hcf x (by omega) (by omega)) (Nat.le_refl _), (hcf _ (by omega) (by omega)).trans x5, (hcf _ (by omega) (by omega)).trans x6, x7.kept (fun x u1 u2 => hcf x (by omega) (by omega)), x8.kept (fun x u1 u2 => hcf x (by omega) (by omega)), x9.kept (fun x u1 u2 => hcf x (by omega) (by omega))⟩
  have M2 : MI b s2 v ((putM txt (xs (n + 1)) (xs (n + 2))).getD txt) dec pl vs pr i' a' := ⟨hm2, hm3, m3.sm9 hm4, m4.sm (hm4.2 4 (by decide)), (hm4.1 18 (by decide)).trans m5, m6.sm (hm4.1 15 (by decide)) (hm4.2 12 (by decide)) (hm4.2 13 (by decide)), m7.sm (hm4.1 27 (by decide)) (hm4.2 19 (by decide)) (hm4.2 20 (by decide)) (hm4.2 21 (by decide)) (hm4.2 22 (by decide)), (hm4.1 32 (by decide)).trans m8⟩
  refine ⟨s2, top, sl, v5, v6, ⟨v, _, dec, pl, da, ea, rk, k0, vs, pr, i', a', X1.kept (fun x hx _ => hmf x (by omega)) ht, M2, (hOI.kept hq (fun x hx => hcf x (by omega) (by omega))).kept hq (fun x hx => hmf x (by omega)), ⟨l1, l2, l3, put_cok l4⟩, ht⟩, by omega, by omega, fun res hh => ?_⟩
  refine x_n cd_i0_104 rfl rfl ?_
  refine x_n cd_i0_105 rfl rfl ?_
  refine x_n cd_i0_106 rfl rfl ?_
  refine x_ic cd_i0_108 (z := ii 1) rfl ?_
  refine x_iadd cd_i0_109 (ii_add _ 1) ?_
  refine x_iaload0 cd_i0_110 hs (by omega) (by omega) ?_
  refine x_n cd_i0_111 rfl rfl ?_
  refine x_n cd_i0_112 rfl rfl ?_
  refine x_ic cd_i0_114 (z := ii 2) rfl ?_
  refine x_iadd cd_i0_115 (ii_add _ 2) ?_
  refine x_iaload0 cd_i0_116 hs (by omega) (by omega) ?_
  refine x_callv (as' := [.int (xs (n + 1)), .int (xs (n + 2))]) cd_i0_117 x2 (by omega) rfl rfl rfl rfl rfl rfl hc ?_
  refine x_n cd_i0_120 rfl rfl ?_
  refine x_n cd_i0_121 rfl rfl ?_
  refine x_n cd_i0_122 rfl rfl ?_
  refine x_ic cd_i0_124 (z := ii 1) rfl ?_
  refine x_iadd cd_i0_125 (ii_add _ 1) ?_
  refine x_iaload0 cd_i0_126 hs1 (by omega) (by omega) ?_
  refine x_n cd_i0_127 rfl rfl ?_
  refine x_n cd_i0_128 rfl rfl ?_
  refine x_ic cd_i0_130 (z := ii 2) rfl ?_
  refine x_iadd cd_i0_131 (ii_add _ 2) ?_
  refine x_iaload0 cd_i0_132 hs1 (by omega) (by omega) ?_
  refine x_callv (as' := [.int (xs (n + 1)), .int (xs (n + 2))]) cd_i0_133 hM1.1.1 (by omega) rfl rfl rfl rfl rfl rfl hm ?_
  exact x_icmp_t cd_i0_136 rfl hh
theorem st_forget (hd : 50 < d) (hcs : csOk cs ad) (hn : n + 2 < L) (hL : L ≤ 1536) (hq : q < b) (h : inv cs ad q L xs b σ top) : stp cs ad q L xs b d n 229 σ top sl v5 v6 := by
  obtain ⟨v, txt, dec, pl, da, ea, rk, k0, vs, pr, i, a, hX, hM, hOI, hLI, ht⟩ := h
  obtain ⟨x1, x2, x3, x4, x5, x6, x7, x8, x9⟩ := id hX
  obtain ⟨m1, m2, m3, m4, m5, m6, m7, m8⟩ := id hM
  obtain ⟨l1, l2, l3, l4⟩ := id hLI
  have hs := hOI.1
  obtain ⟨y1, y2, y3, f, g, y4, y5, y6⟩ := id x7
  have hc := x_forget (cs := cs) (d := d - 1) (top := top) (sl := sl) x2 y1
  obtain ⟨s1, hs1⟩ : ∃ s, s = am_up σ (b + 6) (.inr (.inl (9, [.ref (b + 7), .ref (b + 8), .int 0]))) := ⟨_, rfl⟩
  rw [← hs1] at hc
  have hcf : ∀ x, x ≠ b + 6 → s1 x = σ x := fun x hx => by rw [hs1, am_up_ne _ _ hx]
  have hM1 := hM.kept (fun x u1 u2 => hcf x (by omega))
  obtain ⟨s2, hm, hm2, hmf⟩ := m_forget (cs := cs) (d := d - 1) (top := top) (sl := sl) hM1.1
  have S1 : X_sco s1 b [] := ⟨by rw [hs1, am_up_self]; rfl, by decide, (fun q hq => by cases hq), f, g, (hcf _ (by omega)).trans y4, (hcf _ (by omega)).trans y5, fun j hj => absurd hj (Nat.not_lt_zero j)⟩
  have X1 : XI cs ad b s1 top v txt dec pl da ea k0 [] pr := ⟨x1.kept (fun x hx => hcf x (by omega)), (hcf _ (by omega)).trans x2, x3.kept (hcf _ (by omega)) (hcf _ (by omega)), x4.kept (hcf _ (by omega)) (hcf _ (by omega)) (hcf _ (by omega)) (fun x u1 u2 => hcf x (by omega)) (Nat.le_refl _), (hcf _ (by omega)).trans x5, (hcf _ (by omega)).trans x6, S1, x8.kept (fun x u1 u2 => hcf x (by omega)), x9.kept (fun x u1 u2 => hcf x (by omega))⟩
  have iu : ∀ k, k ≠ 0 → k ≠ 15 → upd (upd i 0 0) 15 0 k = i k := fun k k1 k2 => by rw [upd_ne k2, upd_ne k1]
  have M2 : MI b s2 v txt dec pl [] pr (upd (upd i 0 0) 15 0) a := ⟨hm2, m2.sm (iu 2 (by decide) (by decide)) rfl, m3, m4, (iu 18 (by decide) (by decide)).trans m5, ⟨upd_eq, by decide, (fun q hq => by cases hq), fun j hj => absurd hj (Nat.not_lt_zero j)⟩, m7.sm (iu 27 (by decide) (by decide)) rfl rfl rfl rfl, (iu 32 (by decide) (by decide)).trans m8⟩
  refine ⟨s2, top, sl, v5, v6, ⟨v, txt, dec, pl, da, ea, rk, k0, [], pr, _, a, X1.kept (fun x hx _ => hmf x (by omega)) ht, M2, (hOI.kept hq (fun x hx => hcf x (by omega))).kept hq (fun x hx => hmf x (by omega)), ⟨l1, l2, (fun i j hi => absurd hi (Nat.not_lt_zero i)), l4⟩, ht⟩, by omega, by omega, fun res hh => ?_⟩
  refine x_n cd_i0_229 rfl rfl ?_
  refine x_callv (as' := []) (r := none) cd_i0_230 x2 (by omega) rfl rfl rfl rfl rfl rfl hc ?_
  refine x_n cd_i0_233 rfl rfl ?_
  refine x_callv (as' := []) (r := none) cd_i0_234 hM1.1.1 (by omega) rfl rfl rfl rfl rfl rfl hm ?_
  refine x_n cd_i0_237 rfl rfl ?_
  exact hh
end SJ
