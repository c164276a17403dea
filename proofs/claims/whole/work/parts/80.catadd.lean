/-- a declaration's whole text -/
def pDecl (dec : Nat → Option Dec) (txt : List Nat) : Option (Nat × Option Nat × List Mem) := match pHd dec txt with
  | none => none
  | some H => match pMbs dec H.2.1 H.1 txt H.2.2 with
    | none => none
    | some R => if R.2 = txt.length then some (H.1, H.2.1, R.1) else none
def upE (ea : Nat → Nat → Nat) (c : Nat) (f : Nat → Nat) : Nat → Nat → Nat := fun k => if k = c then f else ea k
section CA
variable {cs : Nat → Value} {d b top sl : Nat} {σ : am_H} {ad : Nat → Nat} {lo hi : Nat} {dec : Nat → Option Dec} {pl : Int32} {da : Nat → Nat} {ea : Nat → Nat → Nat} {rk : Nat → Nat} {a c : Nat} {par : Option Nat} {ms : List Mem} {ea' : Nat → Nat}
theorem map_da (hn : dec c = none) (o : Option Nat) (ho : ∀ p, o = some p → ∃ D, dec p = some D) : o.map (upN da c a) = o.map da := by
  cases o with
  | none => rfl
  | some p =>
    obtain ⟨D, hD⟩ := ho p rfl
    have : p ≠ c := fun z => by rw [z, hn] at hD; cases hD
    show some (upN da c a p) = some (da p)
    unfold upN
    rw [if_neg this]
theorem x_catAdd_no {D : Dec} (hd : 0 < d) (hC : X_cat ad σ b lo dec pl da ea) (hA : decAt ad σ lo hi a c (par.map da) ms ea') (hc : c < 10) (hD : dec c = some D) :
    am_to cd_t cs d 61 0 (am_ent 3 [.ref (b + 3), .ref a]) [] σ top sl (.inl (some (.int (ii 0))), σ, top, sl) := by
  obtain ⟨q1, q2, qr, qg, q3, q4, q5, q6, q7, q8⟩ := hA
  have h := x_declO (cs := cs) (d := d - 1) (top := top) (sl := sl) (o := some c) hC (fun q hq => by rw [← Option.some.inj hq]; exact hc)
  have e : ((some c : Option Nat).bind fun q => (dec q).map fun _ => da q) = some (da c) := by
    show (dec c).map (fun _ => da c) = _
    rw [hD]
    rfl
  rw [e] at h
  refine x_n cd_i61_0 rfl rfl ?_
  refine x_n cd_i61_1 rfl rfl ?_
  refine x_getf cd_i61_2 (by assumption) rfl rfl ?_
  show am_to cd_t _ _ 61 5 _ _ _ _ _ _
  refine x_callv (as' := [.int (ii c)]) cd_i61_5 hC.1 hd rfl rfl rfl rfl rfl rfl h ?_
  refine x_null_f cd_i61_8 ?_
  refine x_ic cd_i61_11 (z := ii 0) rfl ?_
  show am_to cd_t _ _ 61 12 _ _ _ _ _ _
  exact x_end cd_i61_12 rfl rfl rfl
theorem x_catAdd (hd : 0 < d) (hr : ranked dec rk) (hC : X_cat ad σ b lo dec pl da ea) (hA : decAt ad σ lo hi a c (par.map da) ms ea') (hc : c < 10) (hD : dec c = none) (hpar : ∀ p, par = some p → ∃ D, dec p = some D) (hb : b + 114 ≤ lo) (hlo : lo ≤ hi) (hinj : injN ea' ms.length) :
    ∃ σ', am_to cd_t cs d 61 0 (am_ent 3 [.ref (b + 3), .ref a]) [] σ top sl (.inl (some (.int (ii 1))), σ', top, sl) ∧ X_cat ad σ' b hi (updD dec c (par, ms)) pl (upN da c a) (upE ea c ea') ∧ ∀ x, x ≠ b + 4 → x ≠ b + 5 → σ' x = σ x := by
  have h := x_declO (cs := cs) (d := d - 1) (top := top) (sl := sl) (o := some c) hC (fun q hq => by rw [← Option.some.inj hq]; exact hc)
  have e : ((some c : Option Nat).bind fun q => (dec q).map fun _ => da q) = none := by
    show (dec c).map (fun _ => da c) = _
    rw [hD]
    rfl
  rw [e] at h
  obtain ⟨q1, q2, qr, qg, q3, q4, q5, q6, q7, q8⟩ := id hA
  obtain ⟨g1, ⟨g, g2, g3⟩, g4, ⟨F, g5, g6⟩, g7⟩ := id hC
  obtain ⟨s1, hs1⟩ : ∃ z, z = am_up σ (b + 4) (.inl (.object "ChainDesk$Declaration", 10, .inr (.inr (.inr (.inr (va_up g c (some a))))))) := ⟨_, rfl⟩
  have f1 : ∀ x, x ≠ b + 4 → s1 x = σ x := fun x hx => by rw [hs1, am_up_ne _ _ hx]
  have a1 := (f1 a (by omega)).trans q5
  have c1 := (f1 (b + 3) (by omega)).trans g1
  have F1 := (f1 (b + 5) (by omega)).trans g5
  have go1 : ∀ res, am_to cd_t cs d 61 29 [some (.ref (b + 3)), some (.ref a), some (va_rf (par.map da))] [va_rf (par.map da)] s1 top sl res → am_to cd_t cs d 61 0 (am_ent 3 [.ref (b + 3), .ref a]) [] σ top sl res := by
    intro res hh
    refine x_n cd_i61_0 rfl rfl ?_
    refine x_n cd_i61_1 rfl rfl ?_
    refine x_getf cd_i61_2 (by assumption) rfl rfl ?_
    show am_to cd_t _ _ 61 5 _ _ _ _ _ _
    refine x_callv (as' := [.int (ii c)]) cd_i61_5 hC.1 hd rfl rfl rfl rfl rfl rfl h ?_
    refine x_null_t cd_i61_8 ?_
    refine x_n cd_i61_13 rfl rfl ?_
    refine x_getf cd_i61_14 (by assumption) rfl rfl ?_
    refine x_n cd_i61_17 rfl rfl ?_
    refine x_getf cd_i61_18 (by assumption) rfl rfl ?_
    refine x_n cd_i61_21 rfl rfl ?_
    show am_to cd_t _ _ 61 22 _ _ _ _ _ _
    refine x_aastore cd_i61_22 g2 q5 rfl hc (by decide) ?_
    refine hs1 ▸ ?_
    cases par with
    | none =>
      refine x_n cd_i61_23 rfl rfl ?_
      show am_to cd_t _ _ 61 24 _ _ _ _ _ _
      refine x_getf cd_i61_24 a1 rfl rfl ?_
      refine x_n cd_i61_27 rfl rfl ?_
      try dsimp only [List.set]
      refine x_n cd_i61_28 rfl rfl ?_
      show am_to cd_t _ _ 61 29 _ _ _ _ _ _
      exact hh
    | some p =>
      refine x_n cd_i61_23 rfl rfl ?_
      show am_to cd_t _ _ 61 24 _ _ _ _ _ _
      refine x_getf cd_i61_24 a1 rfl rfl ?_
      refine x_n cd_i61_27 rfl rfl ?_
      try dsimp only [List.set]
      refine x_n cd_i61_28 rfl rfl ?_
      show am_to cd_t _ _ 61 29 _ _ _ _ _ _
      exact hh
  have cat : ∀ (σ' : am_H) (F' : Nat → Int32), (∀ x, x ≠ b + 5 → σ' x = s1 x) → σ' (b + 5) = some (.inl (.int, 13, .inl F')) → (∀ t w, t < 13 → w < 13 → ((F' t >>> (ii w &&& 31)) &&& ii 1 = ii 1 ↔ fitM (updD dec c (par, ms)) t w)) → X_cat ad σ' b hi (updD dec c (par, ms)) pl (upN da c a) (upE ea c ea') := by
    intro σ' F' h1 h2 h3
    have fr : ∀ x, x ≠ b + 4 → x ≠ b + 5 → σ' x = σ x := fun x k1 k2 => (h1 x k2).trans (f1 x k1)
    refine ⟨(fr _ (by omega) (by omega)).trans g1, ⟨va_up g c (some a), ?_, ?_⟩, ?_, ⟨F', h2, h3⟩, ?_⟩
    · rw [h1 _ (by omega), hs1]
      exact am_up_self _ _ _
    · intro k hk
      unfold va_up updD upN
      by_cases ek : k = c
      · rw [if_pos ek, if_pos ek, if_pos ek]
        rfl
      · rw [if_neg ek, if_neg ek, if_neg ek]
        exact g3 k hk
    · intro k D hk hDk
      unfold updD at hDk
      by_cases ek : k = c
      · rw [if_pos ek] at hDk
        have hDk := Option.some.inj hDk
        rw [← hDk, map_da hD par hpar]
        unfold upN upE
        rw [if_pos ek, if_pos ek, ek]
        exact (hA.kept (fun q k1 k2 => fr q (by omega) (by omega)) (Nat.le_refl _)).wide hb (Nat.le_refl _)
      · rw [if_neg ek] at hDk
        rw [map_da hD D.1 (fun p hp => ((hr k D hDk).2.2 p hp).2.1)]
        unfold upN upE
        rw [if_neg ek, if_neg ek]
        exact (g4 k D hk hDk).kept (fun q k1 k2 => fr q (by omega) (by omega)) hlo
    · intro k D k' D' i i' hk hk' hi hi' he
      have old : ∀ x D'' j, x ≠ c → updD dec c (par, ms) x = some D'' → j < D''.2.length → ea x j < lo := by
        intro x D'' j hx hx2 hj
        unfold updD at hx2
        rw [if_neg hx] at hx2
        obtain ⟨u1, u2, ur, ug, u3, u4, u5, u6, u7, u8⟩ := g4 x D'' (hr x D'' hx2).1 hx2
        exact (u8 j hj).2.2.1
      have new : ∀ D'' j, updD dec c (par, ms) c = some D'' → j < D''.2.length → lo ≤ ea' j ∧ j < ms.length := by
        intro D'' j hx2 hj
        unfold updD at hx2
        rw [if_pos rfl] at hx2
        have hx2 := Option.some.inj hx2
        rw [← hx2] at hj
        exact ⟨(q8 j hj).2.1, hj⟩
      unfold upE at he
      by_cases e1 : k = c
      · by_cases e2 : k' = c
        · rw [if_pos e1, if_pos e2] at he
          rw [e1] at hk
          rw [e2] at hk'
          exact ⟨by omega, hinj i i' (new D i hk hi).2 (new D' i' hk' hi').2 he⟩
        · rw [if_pos e1, if_neg e2] at he
          rw [e1] at hk
          have := (new D i hk hi).1
          have := old k' D' i' e2 hk' hi'
          omega
      · by_cases e2 : k' = c
        · rw [if_neg e1, if_pos e2] at he
          rw [e2] at hk'
          have := (new D' i' hk' hi').1
          have := old k D i e1 hk hi
          omega
        · rw [if_neg e1, if_neg e2] at he
          unfold updD at hk hk'
          rw [if_neg e1] at hk
          rw [if_neg e2] at hk'
          exact g7 k D k' D' i i' hk hk' hi hi' he
  cases hp : par with
  | none =>
    subst hp
    refine ⟨s1, go1 _ ?_, cat s1 F (fun _ _ => rfl) F1 (fun t w ht hw => ?_), fun x k1 k2 => f1 x k1⟩
    · refine x_null_t cd_i61_29 ?_
      refine x_ic cd_i61_57 (z := ii 1) rfl ?_
      show am_to cd_t _ _ 61 58 _ _ _ _ _ _
      exact x_end cd_i61_58 rfl rfl rfl
    · rw [g6 t w ht hw]
      by_cases et : t = 3 + c
      · rw [et, fit_upd_eq hr hD]
        constructor
        · intro h
          exact Or.inl (Or.inl h)
        · rintro ((h | ⟨p, h, -⟩) | ⟨p, h, -⟩)
          · exact h
          · cases h
          · cases h
      · exact (fit_upd_ne hr hD et).symm
  | some p =>
    subst hp
    obtain ⟨Dp, hDp⟩ := hpar p rfl
    have hp10 := (hr p Dp hDp).1
    obtain ⟨u1, u2, ur, ug, u3, u4, u5, u6, u7, u8⟩ := g4 p Dp hp10 hDp
    have p1 := (f1 (da p) (by omega)).trans u5
    refine ⟨am_up s1 (b + 5) (.inl (.int, 13, .inl (upd F (3 + c) (F (3 + c) ||| F (3 + p))))), go1 _ ?_, cat _ _ (fun x hx => am_up_ne _ _ hx) (am_up_self _ _ _) (fun t w ht hw => ?_), fun x k1 k2 => (am_up_ne _ _ k2).trans (f1 x k1)⟩
    · refine x_null_f cd_i61_29 ?_
      refine x_n cd_i61_32 rfl rfl ?_
      show am_to cd_t _ _ 61 33 _ _ _ _ _ _
      refine x_getf cd_i61_33 c1 rfl rfl ?_
      refine x_ic cd_i61_36 (z := ii 3) rfl ?_
      refine x_n cd_i61_37 rfl rfl ?_
      show am_to cd_t _ _ 61 38 _ _ _ _ _ _
      refine x_getf cd_i61_38 a1 rfl rfl ?_
      refine x_iadd cd_i61_41 (ii_add _ _) ?_
      refine x_n cd_i61_42 rfl rfl ?_
      show am_to cd_t _ _ 61 43 _ _ _ _ _ _
      refine x_iaload cd_i61_43 F1 (show 3 + c < 13 by omega) (by decide) ?_
      refine x_n cd_i61_44 rfl rfl ?_
      show am_to cd_t _ _ 61 45 _ _ _ _ _ _
      refine x_getf cd_i61_45 c1 rfl rfl ?_
      refine x_ic cd_i61_48 (z := ii 3) rfl ?_
      refine x_n cd_i61_49 rfl rfl ?_
      show am_to cd_t _ _ 61 50 _ _ _ _ _ _
      refine x_getf cd_i61_50 p1 rfl rfl ?_
      refine x_iadd cd_i61_53 (ii_add _ _) ?_
      refine x_iaload cd_i61_54 F1 (show 3 + p < 13 by omega) (by decide) ?_
      refine x_ior cd_i61_55 rfl ?_
      show am_to cd_t _ _ 61 56 _ _ _ _ _ _
      refine x_iastore cd_i61_56 F1 (show 3 + c < 13 by omega) (by decide) ?_
      refine x_ic cd_i61_57 (z := ii 1) rfl ?_
      show am_to cd_t _ _ 61 58 _ _ _ _ _ _
      exact x_end cd_i61_58 rfl rfl rfl
    · unfold upd
      by_cases et : t = 3 + c
      · rw [if_pos et, et, fit_upd_eq hr hD]
        have b1 := bit_or (F (3 + c)) (F (3 + p)) (ii w &&& 31)
        refine b1.trans ?_
        have k1 := g6 (3 + c) w (by omega) hw
        have k2 := g6 (3 + p) w (by omega) hw
        constructor
        · rintro (h | h)
          · exact Or.inl (Or.inl (k1.mp h))
          · exact Or.inl (Or.inr ⟨p, rfl, ⟨Dp, hDp⟩, k2.mp h⟩)
        · rintro ((h | ⟨q, h, -, h2⟩) | ⟨q, h, h2, -⟩)
          · exact Or.inl (k1.mpr h)
          · rw [← Option.some.inj h] at h2
            exact Or.inr (k2.mpr h2)
          · rw [← Option.some.inj h, hDp] at h2
            cases h2
      · rw [if_neg et, g6 t w ht hw]
        exact (fit_upd_ne hr hD et).symm
end CA
