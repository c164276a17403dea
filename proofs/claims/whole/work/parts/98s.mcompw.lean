def updK (K : Nat → List Ent) (c : Nat) (L : List Ent) : Nat → List Ent := fun k => if k = c then L else K k
theorem Kspec_ext {dec : Nat → Option Dec} {pl : Int32} {vs : List (List Nat × Nat)} {K : Nat → List Ent} {c : Nat} {L : List Ent} (h : Kspec dec pl vs K c) (hL : L8 (if c = 0 then (fun e => e ∈ vs) else ImT dec (Val dec pl K c)) L) : Kspec dec pl vs (updK K c L) (c + 1) := by
  have e : ∀ k, k < c → K k = updK K c L k := fun k hk => by unfold updK; rw [if_neg (by omega)]
  intro k hk
  by_cases ek : k = c
  · have : updK K c L k = L := by unfold updK; rw [if_pos ek]
    rw [this, ek]
    by_cases c0 : c = 0
    · rw [if_pos c0] at hL ⊢
      exact hL
    · rw [if_neg c0] at hL ⊢
      exact ImT_iff hL (fun s => ⟨Val_congr e, Val_congr (fun k hk => (e k hk).symm)⟩)
  · have hkc : k < c := by omega
    rw [← e k hkc]
    have hl := h k hkc
    by_cases k0 : k = 0
    · rw [if_pos k0] at hl ⊢
      exact hl
    · rw [if_neg k0] at hl ⊢
      exact ImT_iff hl (fun s => ⟨Val_congr (fun q hq => e q (by omega)), Val_congr (fun q hq => (e q (by omega)).symm)⟩)
theorem catK_upd {K : Nat → List Ent} {c : Nat} {L : List Ent} : catK (updK K c L) (c + 1) = catK K c ++ L := by
  rw [catK, catK_congr (K' := K) (fun k hk => by unfold updK; rw [if_neg (by omega)])]
  unfold updK
  rw [if_pos rfl]
/-- what a completion leaves as it is -/
def CR (i i' : Nat → Int32) (a a' : Nat → Nat → Int32) : Prop := (∀ q, q ∉ [0, 19, 24, 25, 27] → i' q = i q) ∧ ∀ k, k < 14 ∨ 22 < k → a' k = a k
theorem CR.trans {i i1 i2 : Nat → Int32} {a a1 a2 : Nat → Nat → Int32} (h : CR i i1 a a1) (h' : CR i1 i2 a1 a2) : CR i i2 a a2 := ⟨fun q hq => (h'.1 q hq).trans (h.1 q hq), fun k hk => (h'.2 k hk).trans (h.2 k hk)⟩
theorem CR.num {k : Nat} {x : Int32} (i : Nat → Int32) (a : Nat → Nat → Int32) (hk : k ∈ [0, 19, 24, 25, 27]) : CR i (upd i k x) a a := ⟨fun q hq => upd_ne (fun z => hq (by rw [z]; exact hk)), fun _ _ => rfl⟩
theorem ER.cr {i i' : Nat → Int32} {a a' : Nat → Nat → Int32} (h : ER i i' a a') : CR i i' a a' := ⟨fun q hq => h.1 q (fun z => hq (by rw [z]; decide)) (fun z => hq (by rw [z]; decide)), fun k hk => h.2 k (by omega)⟩
section CN
variable {cs : Nat → Value} {d m top sl : Nat} {dec : Nat → Option Dec} {pl : Int32} {rk : Nat → Nat} {vs : List (List Nat × Nat)}
theorem m_comp_costs {n ty : Nat} (hd : 5 < d) (hO : catOk dec) (hrk : ranked dec rk) (hV : distV vs) (hn : n ≤ 3) :
    ∀ (q c : Nat) (σ : am_H) (i : Nat → Int32) (a : Nat → Nat → Int32) (K : Nat → List Ent), c + q = n + 1 → mo σ m i a → M_cat a dec → i 18 = pl → M_sco i a vs → flat i a (catK K c) → Kspec dec pl vs K c →
    ∃ (σ' : am_H) (i' : Nat → Int32) (a' : Nat → Nat → Int32) (K' : Nat → List Ent), mo σ' m i' a' ∧ CR i i' a a' ∧ flat i' a' (catK K' (n + 1)) ∧ Kspec dec pl vs K' (n + 1) ∧ (i' 0 = i 0) ∧ (∀ y, y < m ∨ m + 25 ≤ y → σ' y = σ y) ∧
      ∀ res, am_to cd_t cs d 130 72 [some (.ref m), some (.int (ii ty)), some (.int (ii n)), some (.int (ii (n + 1)))] [] σ' top sl res → am_to cd_t cs d 130 37 [some (.ref m), some (.int (ii ty)), some (.int (ii n)), some (.int (ii c))] [] σ top sl res := by
  intro q
  induction q with
  | zero =>
    intro c σ i a K hc hM hC hpl hS hF hK
    rw [show c = n + 1 by omega] at hF hK ⊢
    refine ⟨σ, i, a, K, hM, ⟨fun _ _ => rfl, fun _ _ => rfl⟩, hF, hK, rfl, fun _ _ => rfl, fun res hh => ?_⟩
    refine x_n cd_i130_37 rfl rfl ?_
    refine x_n cd_i130_38 rfl rfl ?_
    show am_to cd_t _ _ 130 39 _ _ _ _ _ _
    exact x_icmp_t cd_i130_39 (show ii n < ii (n + 1) from (ii_lt (by omega) (by omega)).mpr (by omega)) hh
  | succ q ih =>
    intro c σ i a K hc hM hC hpl hS hF hK
    have hok := Kspec_ok hO hrk hS.2.2.1 c hK
    have hlen := catK_len hok c (Nat.le_refl _)
    have h1 := hM.put (upd i 24 (ii (catK K c).length))
    have C1 : CR i (upd i 24 (ii (catK K c).length)) a a := CR.num i a (by decide)
    have F1 : flat (upd i 24 (ii (catK K c).length)) a (catK K c) := hF
    have head : ∀ res, am_to cd_t cs d 130 51 [some (.ref m), some (.int (ii ty)), some (.int (ii n)), some (.int (ii c))] [.int (ii c)] (am_up σ m (.inr (.inl (11, mo_f m (upd i 24 (ii (catK K c).length)))))) top sl res → am_to cd_t cs d 130 37 [some (.ref m), some (.int (ii ty)), some (.int (ii n)), some (.int (ii c))] [] σ top sl res := by
      intro res hh
      refine x_n cd_i130_37 rfl rfl ?_
      refine x_n cd_i130_38 rfl rfl ?_
      show am_to cd_t _ _ 130 39 _ _ _ _ _ _
      refine x_icmp_f cd_i130_39 (fun z => by have := (ii_lt (by omega) (by omega)).mp (show ii n < ii c from z); omega) ?_
      refine x_n cd_i130_42 rfl rfl ?_
      refine x_n cd_i130_43 rfl rfl ?_
      show am_to cd_t _ _ 130 44 _ _ _ _ _ _
      refine x_getf cd_i130_44 hM.1 (congrArg (fun z => some (Value.int z)) (hF.1)) rfl ?_
      refine x_putf cd_i130_47 (fs' := mo_f m (upd i 24 (ii (catK K c).length))) hM.1 rfl rfl rfl ?_
      refine x_n cd_i130_50 rfl rfl ?_
      show am_to cd_t _ _ 130 51 _ _ _ _ _ _
      exact hh
    by_cases c0 : c = 0
    · subst c0
      obtain ⟨s2, i2, a2, L, b1, b2, b3, b4, b5, b6, b7⟩ := m_keepVars (cs := cs) (d := d - 1) (top := top) (sl := sl) (by omega) h1 (show M_sco (upd i 24 (ii (catK K 0).length)) a vs from hS) hV (show i 19 = ii 0 from hF.1) rfl
      have C2 := C1.trans b5.cr
      obtain ⟨s3, i3, a3, K3, k1, k2, k3, k4, k5, k6, k7⟩ := ih 1 s2 i2 a2 (updK K 0 L) (by omega) b2 (hC.eq (fun k hk => b5.2 k (by omega))) ((b5.1 18 (by decide) (by decide)).trans hpl) ⟨(b5.1 15 (by decide) (by decide)).trans hS.1, hS.2.1, hS.2.2.1, fun j hj => by rw [b5.2 12 (by decide), b5.2 13 (by decide)]; exact hS.2.2.2 j hj⟩ (by rw [catK_upd]; exact b3) (Kspec_ext hK (by rw [if_pos rfl]; exact b6))
      refine ⟨s3, i3, a3, K3, k1, C2.trans k2, k3, k4, k5.trans (b5.1 0 (by decide) (by decide)), fun y hy => by rw [k6 y hy, b7 y hy, am_up_ne _ _ (by omega)], fun res hh => head res ?_⟩
      refine x_if_f cd_i130_51 (fun z => z rfl) ?_
      refine x_n cd_i130_54 rfl rfl ?_
      show am_to cd_t _ _ 130 55 _ _ _ _ _ _
      refine x_callv (as' := []) (r := none) cd_i130_55 h1.1 (by omega) rfl rfl rfl rfl rfl rfl (b1) ?_
      refine x_n cd_i130_58 rfl rfl ?_
      refine x_iinc cd_i130_66 rfl (ii_add _ 1) rfl ?_
      try dsimp only [List.set]
      refine x_n cd_i130_69 rfl rfl ?_
      show am_to cd_t _ _ 130 37 _ _ _ _ _ _
      exact k7 res hh
    · have hin : ∀ e, e < (catK K c).length → inK K c ((catK K c).getD e default) := fun e he => by
        rw [entD_in he]
        exact (catK_mem hok c (Nat.le_refl _) _).mp (List.getElem_mem he)
      have hall : ∀ E, inK K c E → ∃ e, e < (catK K c).length ∧ (catK K c).getD e default = E := fun E hE => by
        obtain ⟨e, he, ee⟩ := List.getElem_of_mem ((catK_mem hok c (Nat.le_refl _) E).mpr hE)
        exact ⟨e, he, by rw [entD_in he]; exact ee⟩
      obtain ⟨s2, i2, a2, L, b1, b2, b3, b4, b5⟩ := m_keepCost (cs := cs) (d := d - 1) (top := top) (sl := sl) (c := c) (K := K) (O := catK K c) (by omega) (by omega) (by omega) hO hrk hok (by omega) (catK_nodup hok c (Nat.le_refl _)) hin hall ⟨h1, by rw [List.append_nil]; exact F1, rfl, hC, hpl, by decide⟩
      have C2 := C1.trans b3.cr
      obtain ⟨s3, i3, a3, K3, k1, k2, k3, k4, k5, k6, k7⟩ := ih (c + 1) s2 i2 a2 (updK K c L) (by omega) b2.1 b2.2.2.2.1 b2.2.2.2.2.1 ⟨(b3.1 15 (by decide) (by decide)).trans hS.1, hS.2.1, hS.2.2.1, fun j hj => by rw [b3.2 12 (by decide), b3.2 13 (by decide)]; exact hS.2.2.2 j hj⟩ (by rw [catK_upd]; exact b2.2.1) (Kspec_ext hK (by rw [if_neg c0]; exact b4))
      refine ⟨s3, i3, a3, K3, k1, C2.trans k2, k3, k4, k5.trans (b3.1 0 (by decide) (by decide)), fun y hy => by rw [k6 y hy, b5 y hy, am_up_ne _ _ (by omega)], fun res hh => head res ?_⟩
      refine x_if_t cd_i130_51 (fun z => c0 ((ii_eq (b := 0) (by omega) (by decide)).mp z)) ?_
      refine x_n cd_i130_61 rfl rfl ?_
      refine x_n cd_i130_62 rfl rfl ?_
      show am_to cd_t _ _ 130 63 _ _ _ _ _ _
      refine x_callv (as' := [.int (ii c)]) (r := none) cd_i130_63 h1.1 (by omega) rfl rfl rfl rfl rfl rfl (b1) ?_
      refine x_iinc cd_i130_66 rfl (ii_add _ 1) rfl ?_
      try dsimp only [List.set]
      refine x_n cd_i130_69 rfl rfl ?_
      show am_to cd_t _ _ 130 37 _ _ _ _ _ _
      exact k7 res hh
theorem take_filter {F : List Ent} {p : Ent → Bool} {e : Nat} (h : ((F.take e).filter p).length = 10) : (F.filter p).take 10 = (F.take e).filter p := by
  have : F.filter p = (F.take e).filter p ++ (F.drop e).filter p := by rw [← List.filter_append, List.take_append_drop]
  rw [this, List.take_append_of_le_length (by omega), List.take_of_length_le (by omega)]
theorem m_comp_props {F : List Ent} {ty n : Nat} (hd : 2 < d) (hrk : ranked dec rk) (hty : ty < 13) (hF32 : F.length ≤ 32) (hFt : ∀ e ∈ F, e.2 < 13) :
    ∀ (q e : Nat) (σ : am_H) (i : Nat → Int32) (a : Nat → Nat → Int32), e + q = F.length → mo σ m i a → M_cat a dec → flat i a F → ((F.take e).filter (fun E => fitB dec E.2 ty)).length ≤ 10 → M_pr i a (((F.take e).filter (fun E => fitB dec E.2 ty)).map (fun E => (E.1, cst E.1, E.2))) →
    ∃ (σ' : am_H) (i' : Nat → Int32) (a' : Nat → Nat → Int32), am_to cd_t cs d 130 79 [some (.ref m), some (.int (ii ty)), some (.int (ii n)), some (.int (ii e))] [] σ top sl (.inl (some (.int (ii (prOf dec F ty).length))), σ', top, sl) ∧ mo σ' m i' a' ∧ M_pr i' a' (prOf dec F ty) ∧ (∀ q, q ≠ 27 → i' q = i q) ∧ (∀ k, k < 14 ∨ 22 < k → a' k = a k) ∧ ∀ y, y < m ∨ m + 25 ≤ y → σ' y = σ y := by
  intro q
  induction q with
  | zero =>
    intro e σ i a he hM hC hF hl hP
    have ep : prOf dec F ty = ((F.take e).filter (fun E => fitB dec E.2 ty)).map (fun E => (E.1, cst E.1, E.2)) := by
      unfold prOf
      rw [List.take_of_length_le (l := F) (by omega)] at hl ⊢
      rw [List.take_of_length_le hl]
    rw [ep]
    refine ⟨σ, i, a, ?_, hM, hP, fun _ _ => rfl, fun _ _ => rfl, fun _ _ => rfl⟩
    refine x_n cd_i130_79 rfl rfl ?_
    refine x_n cd_i130_80 rfl rfl ?_
    show am_to cd_t _ _ 130 81 _ _ _ _ _ _
    refine x_getf cd_i130_81 hM.1 (congrArg (fun z => some (Value.int z)) (hF.1)) rfl ?_
    refine x_icmp_t cd_i130_84 ((ii_le (by omega) (by omega)).mpr (by omega)) ?_
    refine x_n cd_i130_121 rfl rfl ?_
    show am_to cd_t _ _ 130 122 _ _ _ _ _ _
    refine x_getf cd_i130_122 hM.1 (congrArg (fun z => some (Value.int z)) (hP.1)) rfl ?_
    exact x_end cd_i130_125 rfl rfl rfl
  | succ q ih =>
    intro e σ i a he hM hC hF hl hP
    have heF : e < F.length := by omega
    have go1 : ∀ res, am_to cd_t cs d 130 93 [some (.ref m), some (.int (ii ty)), some (.int (ii n)), some (.int (ii e))] [.int (ii 10), .int (ii (((F.take e).filter (fun E => fitB dec E.2 ty)).map (fun E => (E.1, cst E.1, E.2))).length)] σ top sl res → am_to cd_t cs d 130 79 [some (.ref m), some (.int (ii ty)), some (.int (ii n)), some (.int (ii e))] [] σ top sl res := by
      intro res hh
      refine x_n cd_i130_79 rfl rfl ?_
      refine x_n cd_i130_80 rfl rfl ?_
      show am_to cd_t _ _ 130 81 _ _ _ _ _ _
      refine x_getf cd_i130_81 hM.1 (congrArg (fun z => some (Value.int z)) (hF.1)) rfl ?_
      refine x_icmp_f cd_i130_84 (fun z => by have := (ii_le (by omega) (by omega)).mp (show ii F.length ≤ ii e from z); omega) ?_
      refine x_n cd_i130_87 rfl rfl ?_
      show am_to cd_t _ _ 130 88 _ _ _ _ _ _
      refine x_getf cd_i130_88 hM.1 (congrArg (fun z => some (Value.int z)) (hP.1)) rfl ?_
      refine x_bi cd_i130_91 (z := ii 10) (by decide) ?_
      show am_to cd_t _ _ 130 93 _ _ _ _ _ _
      exact hh
    rw [List.length_map] at go1
    by_cases h10 : ((F.take e).filter (fun E => fitB dec E.2 ty)).length = 10
    · have ep : prOf dec F ty = ((F.take e).filter (fun E => fitB dec E.2 ty)).map (fun E => (E.1, cst E.1, E.2)) := by
        unfold prOf
        rw [take_filter h10]
      rw [ep]
      refine ⟨σ, i, a, go1 _ (x_icmp_t cd_i130_93 ((ii_le (by decide) (by omega)).mpr (by omega)) ?_), hM, hP, fun _ _ => rfl, fun _ _ => rfl, fun _ _ => rfl⟩
      refine x_n cd_i130_121 rfl rfl ?_
      show am_to cd_t _ _ 130 122 _ _ _ _ _ _
      refine x_getf cd_i130_122 hM.1 (congrArg (fun z => some (Value.int z)) (hP.1)) rfl ?_
      exact x_end cd_i130_125 rfl rfl rfl
    · have hrow := hF.2.2 e heF
      rw [entD_in heF] at hrow
      have hmemF := List.getElem_mem heF
      have hfit := m_fit (cs := cs) (d := d - 1) (top := top) (sl := sl) (t := F[e].2) (w := ty) (by omega) hM hC hrk (hFt _ hmemF) hty
      have etk : F.take (e + 1) = F.take e ++ [F[e]] := by rw [List.take_add_one, List.getElem?_eq_getElem heF]; rfl
      have go2 : ∀ res, am_to cd_t cs d 130 107 [some (.ref m), some (.int (ii ty)), some (.int (ii n)), some (.int (ii e))] [.int (b2i (fitB dec F[e].2 ty))] σ top sl res → am_to cd_t cs d 130 79 [some (.ref m), some (.int (ii ty)), some (.int (ii n)), some (.int (ii e))] [] σ top sl res := by
        intro res hh
        refine go1 res (x_icmp_f cd_i130_93 (fun z => by have := (ii_le (by decide) (by omega)).mp (show ii 10 ≤ ii ((F.take e).filter (fun E => fitB dec E.2 ty)).length from z); omega) ?_)
        refine x_n cd_i130_96 rfl rfl ?_
        refine x_n cd_i130_97 rfl rfl ?_
        refine x_getf cd_i130_98 hM.1 rfl rfl ?_
        refine x_n cd_i130_101 rfl rfl ?_
        show am_to cd_t _ _ 130 102 _ _ _ _ _ _
        refine x_iald cd_i130_102 (hM.2 15 (by decide) (by decide)) (show e < 33 by omega) (by decide) hrow.2.1 ?_
        refine x_n cd_i130_103 rfl rfl ?_
        show am_to cd_t _ _ 130 104 _ _ _ _ _ _
        refine x_callv (as' := [.int (ii F[e].2), .int (ii ty)]) cd_i130_104 hM.1 (by omega) rfl rfl rfl rfl rfl rfl (hfit) ?_
        exact hh
      cases hb : fitB dec F[e].2 ty with
      | false =>
        rw [hb] at go2
        have ef : (F.take (e + 1)).filter (fun E => fitB dec E.2 ty) = (F.take e).filter (fun E => fitB dec E.2 ty) := by
          rw [etk, List.filter_append, List.filter_cons, if_neg (by rw [hb]; decide), List.filter_nil, List.append_nil]
        obtain ⟨s2, i2, a2, k1, k2, k3, k4, k5, k6⟩ := ih (e + 1) σ i a (by omega) hM hC hF (by rw [ef]; exact hl) (by rw [ef]; exact hP)
        refine ⟨s2, i2, a2, go2 _ (x_if_t cd_i130_107 rfl ?_), k2, k3, k4, k5, k6⟩
        refine x_iinc cd_i130_115 rfl (ii_add _ 1) rfl ?_
        try dsimp only [List.set]
        refine x_n cd_i130_118 rfl rfl ?_
        show am_to cd_t _ _ 130 79 _ _ _ _ _ _
        exact k1
      | true =>
        rw [hb] at go2
        have ef : (F.take (e + 1)).filter (fun E => fitB dec E.2 ty) = (F.take e).filter (fun E => fitB dec E.2 ty) ++ [F[e]] := by
          rw [etk, List.filter_append, List.filter_cons, if_pos hb, List.filter_nil]
        obtain ⟨s1, i1, a1, p1, p2, p3, p4, p5, p6⟩ := m_propose (cs := cs) (d := d - 1) (top := top) (sl := sl) (e := e) (E := F[e]) hM hP (by rw [List.length_map]; omega) (by omega) hrow
        obtain ⟨s2, i2, a2, k1, k2, k3, k4, k5, k6⟩ := ih (e + 1) s1 i1 a1 (by omega) p2 (hC.eq (fun k hk => p5 k (by omega))) (by
          refine ⟨(p4 19 (by decide)).trans hF.1, hF.2.1, fun e' he' => ?_⟩
          have := hF.2.2 e' he'
          unfold krow at this ⊢
          rw [p5 14 (by decide), p5 15 (by decide), p5 16 (by decide), p5 17 (by decide)]
          exact this) (by rw [ef, List.length_append]; show _ + 1 ≤ 10; omega) (by rw [ef, List.map_append]; exact p3)
        refine ⟨s2, i2, a2, go2 _ (x_if_f cd_i130_107 (fun z => absurd (show (1 : Int32) = 0 from z) (by decide)) ?_), k2, k3, fun q hq => (k4 q hq).trans (p4 q hq), fun k hk => (k5 k hk).trans (p5 k (by omega)), fun y hy => (k6 y hy).trans (p6 y hy)⟩
        refine x_n cd_i130_110 rfl rfl ?_
        refine x_n cd_i130_111 rfl rfl ?_
        show am_to cd_t _ _ 130 112 _ _ _ _ _ _
        refine x_callv (as' := [.int (ii e)]) (r := none) cd_i130_112 hM.1 (by omega) rfl rfl rfl rfl rfl rfl (p1) ?_
        refine x_iinc cd_i130_115 rfl (ii_add _ 1) rfl ?_
        try dsimp only [List.set]
        refine x_n cd_i130_118 rfl rfl ?_
        show am_to cd_t _ _ 130 79 _ _ _ _ _ _
        exact k1
theorem m_complete {σ : am_H} {i : Nat → Int32} {a : Nat → Nat → Int32} {t w : Int32} (hd : 6 < d) (hO : catOk dec) (hrk : ranked dec rk) (hV : distV vs) (hM : mo σ m i a) (hC : M_cat a dec) (hpl : i 18 = pl) (hS : M_sco i a vs) :
    ∃ (σ' : am_H) (i' : Nat → Int32) (a' : Nat → Nat → Int32) (r : Int32), am_to cd_t cs d 130 0 (am_ent 4 [.ref m, .int t, .int w]) [] σ top sl (.inl (some (.int r)), σ', top, sl) ∧ mo σ' m i' a' ∧ CR i i' a a' ∧ (∀ y, y < m ∨ m + 25 ≤ y → σ' y = σ y) ∧
      ((¬ ((0 ≤ t.toInt ∧ t.toInt < 13) ∧ 0 ≤ w.toInt ∧ w.toInt ≤ 3) ∧ i' 0 = 1 ∧ i' 27 = i 27 ∧ a' = a) ∨
       (((0 ≤ t.toInt ∧ t.toInt < 13) ∧ 0 ≤ w.toInt ∧ w.toInt ≤ 3) ∧ i' 0 = 0 ∧ ∃ K, Kspec dec pl vs K (w.toNatClampNeg + 1) ∧ M_pr i' a' (prOf dec (catK K (w.toNatClampNeg + 1)) t.toNatClampNeg) ∧ r = ii (prOf dec (catK K (w.toNatClampNeg + 1)) t.toNatClampNeg).length)) := by
  have o1 : (t < ii 0 ∨ ii 12 < t) ↔ ¬ (0 ≤ t.toInt ∧ t.toInt < 13) := by
    rw [c_lt (by decide), lt_c (by decide)]
    omega
  have o2 : (w < ii 0 ∨ ii 3 < w) ↔ ¬ (0 ≤ w.toInt ∧ w.toInt ≤ 3) := by
    rw [c_lt (by decide), lt_c (by decide)]
    omega
  have bad : ¬ ((0 ≤ t.toInt ∧ t.toInt < 13) ∧ 0 ≤ w.toInt ∧ w.toInt ≤ 3) → (∀ res, am_to cd_t cs d 130 19 [some (.ref m), some (.int t), some (.int w), none] [] σ top sl res → am_to cd_t cs d 130 0 (am_ent 4 [.ref m, .int t, .int w]) [] σ top sl res) →
      ∃ (σ' : am_H) (i' : Nat → Int32) (a' : Nat → Nat → Int32) (r : Int32), am_to cd_t cs d 130 0 (am_ent 4 [.ref m, .int t, .int w]) [] σ top sl (.inl (some (.int r)), σ', top, sl) ∧ mo σ' m i' a' ∧ CR i i' a a' ∧ (∀ y, y < m ∨ m + 25 ≤ y → σ' y = σ y) ∧
      ((¬ ((0 ≤ t.toInt ∧ t.toInt < 13) ∧ 0 ≤ w.toInt ∧ w.toInt ≤ 3) ∧ i' 0 = 1 ∧ i' 27 = i 27 ∧ a' = a) ∨
       (((0 ≤ t.toInt ∧ t.toInt < 13) ∧ 0 ≤ w.toInt ∧ w.toInt ≤ 3) ∧ i' 0 = 0 ∧ ∃ K, Kspec dec pl vs K (w.toNatClampNeg + 1) ∧ M_pr i' a' (prOf dec (catK K (w.toNatClampNeg + 1)) t.toNatClampNeg) ∧ r = ii (prOf dec (catK K (w.toNatClampNeg + 1)) t.toNatClampNeg).length)) := by
    intro hb hgo
    refine ⟨_, _, a, ii 0, hgo _ ?_, hM.put (upd i 0 (ii 1)), CR.num i a (by decide), fun y hy => am_up_ne _ _ (by omega), Or.inl ⟨hb, rfl, rfl, rfl⟩⟩
    refine x_n cd_i130_19 rfl rfl ?_
    refine x_ic cd_i130_20 (z := ii 1) rfl ?_
    show am_to cd_t _ _ 130 21 _ _ _ _ _ _
    refine x_callv (as' := [.int (ii 1)]) cd_i130_21 hM.1 (by omega) rfl rfl rfl rfl rfl rfl (m_refuse hM) ?_
    exact x_end cd_i130_24 rfl rfl rfl
  have go1 : ∀ res, am_to cd_t cs d 130 7 [some (.ref m), some (.int t), some (.int w), none] [.int (if t < ii 0 ∨ ii 12 < t then 1 else 0)] σ top sl res → am_to cd_t cs d 130 0 (am_ent 4 [.ref m, .int t, .int w]) [] σ top sl res := by
    intro res hh
    refine x_n cd_i130_0 rfl rfl ?_
    refine x_ic cd_i130_1 (z := ii 0) rfl ?_
    refine x_bi cd_i130_2 (z := ii 12) (by decide) ?_
    show am_to cd_t _ _ 130 4 _ _ _ _ _ _
    refine x_calls (as := [.int t, .int (ii 0), .int (ii 12)]) cd_i130_4 (by omega) rfl rfl rfl rfl rfl rfl m_outside ?_
    exact hh
  by_cases ht : 0 ≤ t.toInt ∧ t.toInt < 13
  · rw [if_neg (fun z => o1.mp z ht)] at go1
    have go2 : ∀ res, am_to cd_t cs d 130 16 [some (.ref m), some (.int t), some (.int w), none] [.int (if w < ii 0 ∨ ii 3 < w then 1 else 0)] σ top sl res → am_to cd_t cs d 130 0 (am_ent 4 [.ref m, .int t, .int w]) [] σ top sl res := by
      intro res hh
      refine go1 res (x_if_f cd_i130_7 (fun z => z rfl) ?_)
      refine x_n cd_i130_10 rfl rfl ?_
      refine x_ic cd_i130_11 (z := ii 0) rfl ?_
      refine x_ic cd_i130_12 (z := ii 3) rfl ?_
      show am_to cd_t _ _ 130 13 _ _ _ _ _ _
      refine x_calls (as := [.int w, .int (ii 0), .int (ii 3)]) cd_i130_13 (by omega) rfl rfl rfl rfl rfl rfl m_outside ?_
      exact hh
    by_cases hw : 0 ≤ w.toInt ∧ w.toInt ≤ 3
    · rw [if_neg (fun z => o2.mp z hw)] at go2
      have et := Int32_nn (n := t) (by omega)
      have ew := Int32_nn (n := w) (by omega)
      have ht13 : t.toNatClampNeg < 13 := by
        show t.toInt.toNat < 13
        omega
      have hw3 : w.toNatClampNeg ≤ 3 := by
        show w.toInt.toNat ≤ 3
        omega
      generalize t.toNatClampNeg = T at et ht13 ⊢
      generalize w.toNatClampNeg = W at ew hw3 ⊢
      have h1 := hM.put (upd i 0 (ii 0))
      have h2 := h1.put (upd (upd i 0 (ii 0)) 19 (ii 0))
      have C2 : CR i (upd (upd i 0 (ii 0)) 19 (ii 0)) a a := (CR.num i a (by decide)).trans (CR.num _ a (by decide))
      obtain ⟨s3, i3, a3, K, k1, k2, k3, k4, k5, k6, k7⟩ := m_comp_costs (cs := cs) (d := d) (m := m) (top := top) (sl := sl) (n := W) (ty := T) (by omega) hO hrk hV hw3 (W + 1) 0 _ _ a (fun _ => []) (Nat.zero_add _) h2 hC hpl hS ⟨upd_eq, by decide, fun e he => absurd he (Nat.not_lt_zero e)⟩ (fun c hc => absurd hc (Nat.not_lt_zero c))
      have C3 := C2.trans k2
      have hok := Kspec_ok hO hrk hS.2.2.1 (W + 1) k4
      have hlen := catK_len hok (W + 1) (Nat.le_refl _)
      have h4 := k1.put (upd i3 27 (ii 0))
      obtain ⟨s5, i5, a5, p1, p2, p3, p4, p5, p6⟩ := m_comp_props (cs := cs) (d := d) (top := top) (sl := sl) (F := catK K (W + 1)) (ty := T) (n := W) (by omega) hrk ht13 (by omega) (fun e he => ((hok _ ((catK_mem hok (W + 1) (Nat.le_refl _) e).mp he).1).2.2 e ((catK_mem hok (W + 1) (Nat.le_refl _) e).mp he).2).2.2.1) (catK K (W + 1)).length 0 _ _ a3 (Nat.zero_add _) h4 (hC.eq (fun k hk => C3.2 k (by omega))) k3 (Nat.zero_le _) ⟨upd_eq, Nat.zero_le _, fun q hq => absurd hq (Nat.not_lt_zero q)⟩
      refine ⟨s5, i5, a5, ii (prOf dec (catK K (W + 1)) T).length, go2 _ (x_if_t cd_i130_16 rfl ?_), p2, C3.trans ((CR.num i3 a3 (by decide)).trans ⟨fun q hq => p4 q (fun z => hq (by rw [z]; decide)), p5⟩), fun y hy => by rw [p6 y hy, am_up_ne _ _ (by omega), k6 y hy, am_up_ne _ _ (by omega), am_up_ne _ _ (by omega)], Or.inr ⟨⟨ht, hw⟩, (p4 0 (by decide)).trans k5, K, k4, p3, rfl⟩⟩
      rw [et, ew]
      refine x_n cd_i130_25 rfl rfl ?_
      refine x_ic cd_i130_26 (z := ii 0) rfl ?_
      show am_to cd_t _ _ 130 27 _ _ _ _ _ _
      refine x_putf cd_i130_27 (fs' := mo_f m (upd i 0 (ii 0))) hM.1 rfl rfl rfl ?_
      refine x_n cd_i130_30 rfl rfl ?_
      refine x_ic cd_i130_31 (z := ii 0) rfl ?_
      show am_to cd_t _ _ 130 32 _ _ _ _ _ _
      refine x_putf cd_i130_32 (fs' := mo_f m (upd (upd i 0 (ii 0)) 19 (ii 0))) h1.1 rfl rfl rfl ?_
      refine x_ic cd_i130_35 (z := ii 0) rfl ?_
      refine x_n cd_i130_36 rfl rfl ?_
      try dsimp only [List.set]
      show am_to cd_t _ _ 130 37 _ _ _ _ _ _
      refine k7 _ ?_
      refine x_n cd_i130_72 rfl rfl ?_
      refine x_ic cd_i130_73 (z := ii 0) rfl ?_
      show am_to cd_t _ _ 130 74 _ _ _ _ _ _
      refine x_putf cd_i130_74 (fs' := mo_f m (upd i3 27 (ii 0))) k1.1 rfl rfl rfl ?_
      refine x_ic cd_i130_77 (z := ii 0) rfl ?_
      refine x_n cd_i130_78 rfl rfl ?_
      try dsimp only [List.set]
      show am_to cd_t _ _ 130 79 _ _ _ _ _ _
      exact p1
    · rw [if_pos (o2.mpr hw)] at go2
      exact bad (fun h => hw h.2) (fun res hh => go2 res (x_if_f cd_i130_16 (fun z => absurd (show (1 : Int32) = 0 from z) (by decide)) hh))
  · rw [if_pos (o1.mpr ht)] at go1
    exact bad (fun h => ht h.1) (fun res hh => go1 res (x_if_t cd_i130_7 (fun z => absurd (show (1 : Int32) = 0 from z) (by decide)) hh))
end CN
