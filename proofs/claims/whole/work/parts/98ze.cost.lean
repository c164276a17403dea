/-- what the making of one shelf leaves as it is -/
def FG (b c : Nat) (σ σ' : am_H) : Prop := ∀ x, x ≠ b + 11 → x ≠ b + 14 → x ≠ b + 15 → (x < b + 16 + 18 * c ∨ b + 16 + 18 * c + 18 ≤ x) → σ' x = σ x
theorem FG.trans {b c : Nat} {σ σ1 σ2 : am_H} (h : FG b c σ σ1) (h' : FG b c σ1 σ2) : FG b c σ σ2 := fun x h1 h2 h3 h4 => (h' x h1 h2 h3 h4).trans (h x h1 h2 h3 h4)
theorem FR.fg {b c : Nat} {σ σ' : am_H} (h : FR b c σ σ') : FG b c σ σ' := fun x _ h2 h3 h4 => h x h2 h3 h4
/-- the completer before a shelf is begun -/
def pen (ad : Nat → Nat) (σ : am_H) (b hi : Nat) (dec : Nat → Option Dec) (pl : Int32) (da : Nat → Nat) (ea : Nat → Nat → Nat) (K : Nat → List Ent) (c : Nat) (z : Int32) : Prop :=
  X_cat ad σ b hi dec pl da ea ∧ (∃ t : Nat, σ (b + 11) = some (.inr (.inl (3, [.ref (b + 3), .ref (b + 6), .ref (b + 12), .ref (b + 13), .ref (b + 14), .ref t, .int z])))) ∧
  (∃ g : Nat → Option Nat, σ (b + 12) = some (.inl (.object "ChainDesk$Shelf", 4, .inr (.inr (.inr (.inr g))))) ∧ ∀ i, i < 4 → g i = some (b + 16 + 18 * i)) ∧ (∀ k, k < c → ∃ P, shf σ (b + 16 + 18 * k) (K k) k P) ∧ (∀ k, k < 4 → ∃ L co P, shf σ (b + 16 + 18 * k) L co P) ∧ ∃ w ty co, phr σ (b + 14) w ty co
section STA
variable {cs : Nat → Value} {ad : Nat → Nat} {b hi : Nat} {dec : Nat → Option Dec} {pl : Int32} {da : Nat → Nat} {ea : Nat → Nat → Nat} {K : Nat → List Ent} {c : Nat} {z : Int32} {top sl d : Nat} {rk : Nat → Nat}
theorem x_start {σ : am_H} (hc4 : c < 4) (h : pen ad σ b hi dec pl da ea K c z) :
    ∃ (σ' : am_H) (w : List Nat) (ty : Nat), am_to cd_t cs d 70 0 (am_ent 2 [.ref (b + 11), .int (ii c)]) [] σ top sl (.inl none, σ', top, sl) ∧ cen ad σ' b hi dec pl da ea K c z ∧ tgt σ' b c [] ∧ phr σ' (b + 14) w ty c ∧ FG b c σ σ' := by
  obtain ⟨hC, ⟨t, h11⟩, ⟨g, g1, g2⟩, hK, hsh, w, ty, co, hp⟩ := h
  obtain ⟨L, co', P, hS⟩ := hsh c hc4
  obtain ⟨k1, k2, ⟨h, k3, k4⟩, k5, k6, k7⟩ := id hS
  obtain ⟨f, p1, p2, p3, p4⟩ := id hp
  obtain ⟨s1, hs1⟩ : ∃ s, s = am_up σ (b + 11) (.inr (.inl (3, [.ref (b + 3), .ref (b + 6), .ref (b + 12), .ref (b + 13), .ref (b + 14), .ref (b + 16 + 18 * c), .int z]))) := ⟨_, rfl⟩
  have f1 : ∀ x, x ≠ b + 11 → s1 x = σ x := fun x hx => by rw [hs1, am_up_ne _ _ hx]
  have e1 : s1 (b + 11) = _ := hs1 ▸ am_up_self _ _ _
  obtain ⟨s2, hs2⟩ : ∃ s, s = am_up s1 (b + 16 + 18 * c) (.inr (.inl (10, [.ref (b + 16 + 18 * c + 1), .int (ii 0)]))) := ⟨_, rfl⟩
  have f2 : ∀ x, x ≠ b + 11 → x ≠ b + 16 + 18 * c → s2 x = σ x := fun x hx hx2 => by rw [hs2, am_up_ne _ _ hx2, f1 x hx]
  have e2 : s2 (b + 11) = _ := (hs2 ▸ am_up_ne _ _ (by omega)).trans e1
  obtain ⟨s3, hs3⟩ : ∃ s, s = am_up s2 (b + 14) (.inr (.inl (8, [.ref (b + 14 + 1), .int (ii w.length), .int (ii ty), .int (ii c)]))) := ⟨_, rfl⟩
  have f3 : ∀ x, x ≠ b + 11 → x ≠ b + 14 → x ≠ b + 16 + 18 * c → s3 x = σ x := fun x h1 h2 h3 => by rw [hs3, am_up_ne _ _ h2, f2 x h1 h3]
  have e3 : s3 (b + 11) = _ := (hs3 ▸ am_up_ne _ _ (by omega)).trans e2
  refine ⟨s3, w, ty, ?_, ⟨hC.kept (f3 _ (by omega) (by omega) (by omega)) (f3 _ (by omega) (by omega) (by omega)) (f3 _ (by omega) (by omega) (by omega)) (fun q q1 q2 => f3 q (by omega) (by omega) (by omega)) (Nat.le_refl _), e3, ⟨g, (f3 _ (by omega) (by omega) (by omega)).trans g1, g2⟩, fun k hk => ?_⟩, ⟨P, ?_, by decide, ⟨h, (f3 _ (by omega) (by omega) (by omega)).trans k3, k4⟩, fun i hi => ?_, k6, fun i hi => absurd hi (Nat.not_lt_zero i)⟩, ⟨f, hs3 ▸ am_up_self _ _ _, (f3 _ (by omega) (by omega) (by omega)).trans p2, p3, p4⟩, fun x h1 h2 h3 h4 => f3 x h1 h2 (by omega)⟩
  · refine x_n cd_i70_0 rfl rfl ?_
    refine x_n cd_i70_1 rfl rfl ?_
    refine x_getf cd_i70_2 (by assumption) rfl rfl ?_
    refine x_n cd_i70_5 rfl rfl ?_
    show am_to cd_t _ _ 70 6 _ _ _ _ _ _
    refine x_aaload cd_i70_6 g1 (by omega) (by decide) ?_
    rw [g2 c hc4]
    refine x_putf cd_i70_7 (fs' := [.ref (b + 3), .ref (b + 6), .ref (b + 12), .ref (b + 13), .ref (b + 14), .ref (b + 16 + 18 * c), .int z]) h11 rfl rfl rfl ?_
    refine hs1 ▸ ?_
    refine x_n cd_i70_10 rfl rfl ?_
    refine x_getf cd_i70_11 e1 rfl rfl ?_
    refine x_ic cd_i70_14 (z := ii 0) rfl ?_
    refine x_putf cd_i70_15 (fs' := [.ref (b + 16 + 18 * c + 1), .int (ii 0)]) ((f1 _ (by omega)).trans k1) rfl rfl rfl ?_
    refine hs2 ▸ ?_
    refine x_n cd_i70_18 rfl rfl ?_
    refine x_getf cd_i70_19 e2 rfl rfl ?_
    refine x_n cd_i70_22 rfl rfl ?_
    refine x_putf cd_i70_23 (fs' := [.ref (b + 14 + 1), .int (ii w.length), .int (ii ty), .int (ii c)]) ((f2 _ (by omega) (by omega)).trans p1) rfl rfl rfl ?_
    refine hs3 ▸ ?_
    exact x_end cd_i70_26 rfl rfl rfl
  · obtain ⟨P', hP'⟩ := hK k hk
    exact ⟨P', hP'.kept (fun x x1 x2 => f3 x (by omega) (by omega) (by omega))⟩
  · rw [hs3, am_up_ne _ _ (by omega), hs2, am_up_self]
    rfl
  · obtain ⟨a1, a2, a3, a4⟩ := k5 i hi
    exact ⟨a1, a2, a3, a4.kept (f3 _ (by unfold pad; omega) (by unfold pad; omega) (by unfold pad; omega)) (f3 _ (by unfold pad; omega) (by unfold pad; omega) (by unfold pad; omega))⟩
/-- the classes, one after the other -/
theorem x_cost_classes (hd : 7 < d) (hc0 : 0 < c) (hcs : csOk cs ad) (hO : catOk dec) (hrk : ranked dec rk) (hK : Kok K c) (hc4 : c < 4) :
    ∀ (m x : Nat) (σ : am_H) (L : List Ent) (w : List Nat) (ty : Nat), x + m = 10 → csS cs σ b → cen ad σ b hi dec pl da ea K c z → tgt σ b c L → phr σ (b + 14) w ty c → L8 (ImT dec (fun s => Val dec pl K c s ∧ s.2.1 = none ∧ s.1.1 < x)) L →
    ∃ (σ' : am_H) (L' : List Ent) (w' : List Nat) (ty' : Nat), FR b c σ σ' ∧ tgt σ' b c L' ∧ phr σ' (b + 14) w' ty' c ∧ L8 (ImT dec (fun s => Val dec pl K c s ∧ s.2.1 = none)) L' ∧
      ∀ res, am_to cd_t cs d 78 27 [some (.ref (b + 11)), some (.int (ii c)), some (.int (ii 10)), none, none] [] σ' top sl res → am_to cd_t cs d 78 7 [some (.ref (b + 11)), some (.int (ii c)), some (.int (ii x)), none, none] [] σ top sl res := by
  intro m
  induction m with
  | zero =>
    intro x σ L w ty hm hS hE hT hp hL
    rw [show x = 10 by omega] at hL ⊢
    refine ⟨σ, L, w, ty, FR.refl b c σ, hT, hp, ImT_iff hL (fun s => ⟨fun h => ⟨h.1, h.2.1⟩, fun h => ⟨h.1, h.2, ?_⟩⟩), fun res hh => ?_⟩
    · obtain ⟨D, hD, -⟩ := h.1.1
      exact (hrk _ D hD).1
    · refine x_n cd_i78_7 rfl rfl ?_
      refine x_bi cd_i78_8 (z := ii 10) (by decide) ?_
      show am_to cd_t _ _ 78 10 _ _ _ _ _ _
      exact x_icmp_t cd_i78_10 ((ii_le (by decide) (by decide)).mpr (Nat.le_refl _)) hh
  | succ m ihm =>
    intro x σ L w ty hm hS hE hT hp hL
    have h11 := hE.2.1
    obtain ⟨s1, L1, w1, t1, c1, c2, c3, c4, c5⟩ := x_ofClass (cs := cs) (d := d - 1) (top := top) (sl := sl) (x := x) (left := c - 1) (by omega) hcs hO hrk hK hc4 (by omega) (by omega) hS hE hT hp (fun s hs => hs.1) (fun s hs he => by have := hs.2.2; omega) hL
    obtain ⟨s2, L2, w2, t2, k1, k2, k3, k4, k5⟩ := ihm (x + 1) s1 L1 w1 t1 (by omega) (hS.kept (fun q hq => c2 q (by omega) (by omega) (by omega))) (hE.kept hc4 c2) c3 c4 (ImT_iff c5 (fun s => by
      constructor
      · rintro (⟨h1, h2, h3⟩ | ⟨h1, h2, h3⟩)
        · exact ⟨h1, h2, by omega⟩
        · exact ⟨h1, h3, by omega⟩
      · rintro ⟨h1, h2, h3⟩
        by_cases e : s.1.1 = x
        · exact Or.inr ⟨h1, e, h2⟩
        · exact Or.inl ⟨h1, h2, by omega⟩))
    refine ⟨s2, L2, w2, t2, c2.trans k1, k2, k3, k4, fun res hh => ?_⟩
    refine x_n cd_i78_7 rfl rfl ?_
    refine x_bi cd_i78_8 (z := ii 10) (by decide) ?_
    show am_to cd_t _ _ 78 10 _ _ _ _ _ _
    refine x_icmp_f cd_i78_10 (fun z => by have := (ii_le (by decide) (by omega)).mp (show ii 10 ≤ ii x from z); omega) ?_
    refine x_n cd_i78_13 rfl rfl ?_
    refine x_n cd_i78_14 rfl rfl ?_
    refine x_n cd_i78_15 rfl rfl ?_
    show am_to cd_t _ _ 78 16 _ _ _ _ _ _
    refine x_ic cd_i78_16 (z := ii 1) rfl ?_
    refine x_isub cd_i78_17 (z := ii (c - 1)) (ii_sub (b := 1) (by omega)) ?_
    refine x_callv (as' := [.int (ii x), .int (ii (c - 1))]) (r := none) cd_i78_18 h11 (by omega) rfl rfl rfl rfl rfl rfl c1 ?_
    refine x_iinc cd_i78_21 rfl (ii_add _ 1) rfl ?_
    refine x_n cd_i78_24 rfl rfl ?_
    show am_to cd_t _ _ 78 7 _ _ _ _ _ _
    exact k5 res hh
def PR (dec : Nat → Option Dec) (pl : Int32) (K : Nat → List Ent) (c spent i : Nat) (s : Tup) : Prop := Val dec pl K c s ∧ (s.2.1 = none ∨ ∃ A, s.2.1 = some A ∧ (cst A.1 < spent ∨ (cst A.1 = spent ∧ A ∈ (K spent).take i)))
theorem PR_step {spent i : Nat} (hi : i < (K spent).length) (hc : cst ((K spent).getD i default).1 = spent) (s : Tup) : (PR dec pl K c spent i s ∨ (Val dec pl K c s ∧ s.2.1 = some ((K spent).getD i default))) ↔ PR dec pl K c spent (i + 1) s := by
  have et : (K spent).take (i + 1) = (K spent).take i ++ [(K spent).getD i default] := by
    rw [List.take_add_one, List.getElem?_eq_getElem hi, entD_in hi]
    rfl
  unfold PR
  rw [et]
  constructor
  · rintro (⟨h1, h2 | ⟨A, h2, h3⟩⟩ | ⟨h1, h2⟩)
    · exact ⟨h1, Or.inl h2⟩
    · refine ⟨h1, Or.inr ⟨A, h2, ?_⟩⟩
      rcases h3 with h | ⟨h, h'⟩
      · exact Or.inl h
      · exact Or.inr ⟨h, List.mem_append.mpr (Or.inl h')⟩
    · exact ⟨h1, Or.inr ⟨_, h2, Or.inr ⟨hc, List.mem_append.mpr (Or.inr (List.mem_singleton.mpr rfl))⟩⟩⟩
  · rintro ⟨h1, h2 | ⟨A, h2, h3⟩⟩
    · exact Or.inl ⟨h1, Or.inl h2⟩
    · rcases h3 with h | ⟨h, h'⟩
      · exact Or.inl ⟨h1, Or.inr ⟨A, h2, Or.inl h⟩⟩
      · rcases List.mem_append.mp h' with h'' | h''
        · exact Or.inl ⟨h1, Or.inr ⟨A, h2, Or.inr ⟨h, h''⟩⟩⟩
        · rw [List.mem_singleton.mp h''] at h2
          exact Or.inr ⟨h1, h2⟩
theorem x_cost_shelf {spent : Nat} (hd : 7 < d) (hcs : csOk cs ad) (hO : catOk dec) (hrk : ranked dec rk) (hK : Kok K c) (hc4 : c < 4) (hsp : spent < c) :
    ∀ (m i : Nat) (σ : am_H) (L : List Ent) (w : List Nat) (ty : Nat), i + m = (K spent).length → cen ad σ b hi dec pl da ea K c z → tgt σ b c L → phr σ (b + 14) w ty c → L8 (ImT dec (PR dec pl K c spent i)) L →
    ∃ (σ' : am_H) (L' : List Ent) (w' : List Nat) (ty' : Nat), FR b c σ σ' ∧ tgt σ' b c L' ∧ phr σ' (b + 14) w' ty' c ∧ L8 (ImT dec (PR dec pl K c spent (K spent).length)) L' ∧
      ∀ res, am_to cd_t cs d 78 75 [some (.ref (b + 11)), some (.int (ii c)), some (.int (ii spent)), some (.ref (b + 16 + 18 * spent)), some (.int (ii (K spent).length))] [] σ' top sl res → am_to cd_t cs d 78 44 [some (.ref (b + 11)), some (.int (ii c)), some (.int (ii spent)), some (.ref (b + 16 + 18 * spent)), some (.int (ii i))] [] σ top sl res := by
  obtain ⟨hsr, hl8, hKg⟩ := hK spent hsp
  intro m
  induction m with
  | zero =>
    intro i σ L w ty hm hE hT hp hL
    rw [show i = (K spent).length by omega] at hL ⊢
    obtain ⟨P, hS⟩ := hE.2.2.2 spent hsp
    have hS1 := hS.1
    refine ⟨σ, L, w, ty, FR.refl b c σ, hT, hp, hL, fun res hh => ?_⟩
    refine x_n cd_i78_44 rfl rfl ?_
    refine x_n cd_i78_46 rfl rfl ?_
    refine x_getf cd_i78_47 (by assumption) rfl rfl ?_
    show am_to cd_t _ _ 78 50 _ _ _ _ _ _
    exact x_icmp_t cd_i78_50 ((ii_le (by omega) (by omega)).mpr (Nat.le_refl _)) hh
  | succ m ihm =>
    intro i σ L w ty hm hE hT hp hL
    have hil : i < (K spent).length := by omega
    have hA := entD_mem hil
    obtain ⟨a1, a2, a3, a4, a5⟩ := hKg _ hA
    obtain ⟨P, hS⟩ := hE.2.2.2 spent hsp
    obtain ⟨h1, h2, ⟨g, h3, h4⟩, h5, h6, h7⟩ := id hS
    have hPi := h6.1 i (by omega)
    have h11 := hE.2.1
    obtain ⟨s1, L1, w1, t1, c1, c2, c3, c4, c5⟩ := x_select (cs := cs) (d := d - 1) (top := top) (sl := sl) (A := (K spent).getD i default) (left := c - 1 - spent) (pA := pad (b + 16 + 18 * spent) P i) (by omega) hcs hO hrk hK hc4 ⟨by omega, by rw [a2]; exact hA⟩ (by omega) hE hT hp (h7 i hil) (by unfold pad; omega) (by unfold pad; omega) (fun s hs => hs.1) (fun s hs he => by
      rcases hs.2 with h | ⟨A, h, h'⟩
      · rw [h] at he
        cases he
      · rw [h] at he
        have e := Option.some.inj he
        rw [e] at h'
        rcases h' with h' | ⟨-, h'⟩
        · omega
        · obtain ⟨k, hk, ek⟩ := List.getElem_of_mem h'
          rw [List.length_take] at hk
          rw [List.getElem_take, entD_in hil] at ek
          have := List.pairwise_iff_getElem.mp hsr k i (by omega) hil (by omega)
          rw [ek, ltT_irr] at this
          cases this) hL
    obtain ⟨s2, L2, w2, t2, k1, k2, k3, k4, k5⟩ := ihm (i + 1) s1 L1 w1 t1 (by omega) (hE.kept hc4 c2) c3 c4 (ImT_iff c5 (PR_step hil a2))
    refine ⟨s2, L2, w2, t2, c2.trans k1, k2, k3, k4, fun res hh => ?_⟩
    refine x_n cd_i78_44 rfl rfl ?_
    refine x_n cd_i78_46 rfl rfl ?_
    refine x_getf cd_i78_47 (by assumption) rfl rfl ?_
    show am_to cd_t _ _ 78 50 _ _ _ _ _ _
    refine x_icmp_f cd_i78_50 (fun z => by have := (ii_le (by omega) (by omega)).mp (show ii (K spent).length ≤ ii i from z); omega) ?_
    refine x_n cd_i78_53 rfl rfl ?_
    refine x_n cd_i78_54 rfl rfl ?_
    refine x_getf cd_i78_55 (by assumption) rfl rfl ?_
    refine x_n cd_i78_58 rfl rfl ?_
    show am_to cd_t _ _ 78 60 _ _ _ _ _ _
    refine x_aaload cd_i78_60 h3 (by omega) (by decide) ?_
    rw [h4 i (by omega)]
    refine x_n cd_i78_61 rfl rfl ?_
    refine x_ic cd_i78_62 (z := ii 1) rfl ?_
    refine x_isub cd_i78_63 (z := ii (c - 1)) (ii_sub (b := 1) (by omega)) ?_
    refine x_n cd_i78_64 rfl rfl ?_
    refine x_isub cd_i78_65 (z := ii (c - 1 - spent)) (ii_sub (by omega)) ?_
    refine x_callv (as' := [.ref (pad (b + 16 + 18 * spent) P i), .int (ii (c - 1 - spent))]) (r := none) cd_i78_66 h11 (by omega) rfl rfl rfl rfl rfl rfl c1 ?_
    refine x_iinc cd_i78_69 rfl (ii_add _ 1) rfl ?_
    refine x_n cd_i78_72 rfl rfl ?_
    show am_to cd_t _ _ 78 44 _ _ _ _ _ _
    exact k5 res hh
theorem x_cost_shelves (hd : 7 < d) (hcs : csOk cs ad) (hO : catOk dec) (hrk : ranked dec rk) (hK : Kok K c) (hc4 : c < 4) :
    ∀ (m spent : Nat) (σ : am_H) (L : List Ent) (w : List Nat) (ty : Nat) (v3 v4 : Option Value), spent + m = c → cen ad σ b hi dec pl da ea K c z → tgt σ b c L → phr σ (b + 14) w ty c → L8 (ImT dec (PR dec pl K c spent 0)) L →
    ∃ (σ' : am_H) (L' : List Ent) (w' : List Nat) (ty' : Nat), am_to cd_t cs d 78 29 [some (.ref (b + 11)), some (.int (ii c)), some (.int (ii spent)), v3, v4] [] σ top sl (.inl none, σ', top, sl) ∧ FR b c σ σ' ∧ tgt σ' b c L' ∧ phr σ' (b + 14) w' ty' c ∧ L8 (ImT dec (PR dec pl K c c 0)) L' := by
  intro m
  induction m with
  | zero =>
    intro spent σ L w ty v3 v4 hm hE hT hp hL
    rw [show spent = c by omega] at hL ⊢
    refine ⟨σ, L, w, ty, ?_, FR.refl b c σ, hT, hp, hL⟩
    refine x_n cd_i78_29 rfl rfl ?_
    refine x_n cd_i78_30 rfl rfl ?_
    show am_to cd_t _ _ 78 31 _ _ _ _ _ _
    refine x_icmp_t cd_i78_31 ((ii_le (by omega) (by omega)).mpr (Nat.le_refl _)) ?_
    exact x_end cd_i78_81 rfl rfl rfl
  | succ m ihm =>
    intro spent σ L w ty v3 v4 hm hE hT hp hL
    have h11 := hE.2.1
    obtain ⟨g, g1, g2⟩ := hE.2.2.1
    obtain ⟨s1, L1, w1, t1, c1, c2, c3, c4, c5⟩ := x_cost_shelf (cs := cs) (top := top) (sl := sl) hd hcs hO hrk hK hc4 (show spent < c by omega) (K spent).length 0 σ L w ty (Nat.zero_add _) hE hT hp hL
    obtain ⟨s2, L2, w2, t2, k1, k2, k3, k4, k5⟩ := ihm (spent + 1) s1 L1 w1 t1 (some (.ref (b + 16 + 18 * spent))) (some (.int (ii (K spent).length))) (by omega) (hE.kept hc4 c1) c2 c3 (ImT_iff c4 (fun s => by
      unfold PR
      rw [List.take_length, List.take_zero]
      constructor
      · rintro ⟨h1, h2 | ⟨A, h2, h3⟩⟩
        · exact ⟨h1, Or.inl h2⟩
        · exact ⟨h1, Or.inr ⟨A, h2, Or.inl (by omega)⟩⟩
      · rintro ⟨h1, h2 | ⟨A, h2, h3⟩⟩
        · exact ⟨h1, Or.inl h2⟩
        · refine ⟨h1, Or.inr ⟨A, h2, ?_⟩⟩
          rcases h3 with h | ⟨-, h⟩
          · by_cases e : cst A.1 = spent
            · have hr := h1.rv
              rw [h2] at hr
              have := hr.1.2
              rw [e] at this
              exact Or.inr ⟨e, this⟩
            · exact Or.inl (by omega)
          · cases h))
    refine ⟨s2, L2, w2, t2, ?_, c1.trans k2, k3, k4, k5⟩
    refine x_n cd_i78_29 rfl rfl ?_
    refine x_n cd_i78_30 rfl rfl ?_
    show am_to cd_t _ _ 78 31 _ _ _ _ _ _
    refine x_icmp_f cd_i78_31 (fun z => by have := (ii_le (by omega) (by omega)).mp (show ii c ≤ ii spent from z); omega) ?_
    refine x_n cd_i78_34 rfl rfl ?_
    refine x_getf cd_i78_35 (by assumption) rfl rfl ?_
    refine x_n cd_i78_38 rfl rfl ?_
    show am_to cd_t _ _ 78 39 _ _ _ _ _ _
    refine x_aaload cd_i78_39 g1 (by omega) (by decide) ?_
    rw [g2 spent (by omega)]
    refine x_n cd_i78_40 rfl rfl ?_
    try dsimp only [List.set]
    refine x_ic cd_i78_41 (z := ii 0) rfl ?_
    refine x_n cd_i78_42 rfl rfl ?_
    try dsimp only [List.set]
    show am_to cd_t _ _ 78 44 _ _ _ _ _ _
    refine c5 _ ?_
    refine x_iinc cd_i78_75 rfl (ii_add _ 1) rfl ?_
    refine x_n cd_i78_78 rfl rfl ?_
    show am_to cd_t _ _ 78 29 _ _ _ _ _ _
    exact k1
theorem x_ofCost {σ : am_H} (hd : 7 < d) (hc0 : 0 < c) (hcs : csOk cs ad) (hO : catOk dec) (hrk : ranked dec rk) (hK : Kok K c) (hc4 : c < 4) (hS : csS cs σ b) (h : pen ad σ b hi dec pl da ea K c z) :
    ∃ (σ' : am_H) (L' : List Ent) (w' : List Nat) (ty' : Nat), am_to cd_t cs d 78 0 (am_ent 5 [.ref (b + 11), .int (ii c)]) [] σ top sl (.inl none, σ', top, sl) ∧ cen ad σ' b hi dec pl da ea K c z ∧ FG b c σ σ' ∧ tgt σ' b c L' ∧ phr σ' (b + 14) w' ty' c ∧ L8 (ImT dec (Val dec pl K c)) L' := by
  obtain ⟨-, ⟨t, h11⟩, -⟩ := id h
  obtain ⟨s1, w1, t1, c1, c2, c3, c4, c5⟩ := x_start (cs := cs) (d := d - 1) (top := top) (sl := sl) hc4 h
  obtain ⟨s2, L2, w2, t2, k1, k2, k3, k4, k5⟩ := x_cost_classes (cs := cs) (d := d) (top := top) (sl := sl) hd hc0 hcs hO hrk hK hc4 10 0 s1 [] w1 t1 rfl (hS.kept (fun q hq => c5 q (by omega) (by omega) (by omega) (by omega))) c2 c3 c4 (L8_nil (fun x ⟨s, hs, _⟩ => absurd hs.2.2 (Nat.not_lt_zero _)))
  have E2 := c2.kept hc4 k1
  obtain ⟨s3, L3, w3, t3, q1, q2, q3, q4, q5⟩ := x_cost_shelves (cs := cs) (d := d) (top := top) (sl := sl) hd hcs hO hrk hK hc4 c 0 s2 L2 w2 t2 none none (Nat.zero_add _) E2 k2 k3 (ImT_iff k4 (fun s => by
    unfold PR
    constructor
    · rintro ⟨h1, h2⟩
      exact ⟨h1, Or.inl h2⟩
    · rintro ⟨h1, h2 | ⟨A, h2, h3 | ⟨-, h3⟩⟩⟩
      · exact ⟨h1, h2⟩
      · omega
      · rw [List.take_zero] at h3
        cases h3))
  refine ⟨s3, L3, w3, t3, ?_, E2.kept hc4 q2, (c5.trans k1.fg).trans q2.fg, q3, q4, ImT_iff q5 (fun s => ?_)⟩
  · refine x_n cd_i78_0 rfl rfl ?_
    refine x_n cd_i78_1 rfl rfl ?_
    show am_to cd_t _ _ 78 2 _ _ _ _ _ _
    refine x_callv (as' := [.int (ii c)]) (r := none) cd_i78_2 h11 (by omega) rfl rfl rfl rfl rfl rfl c1 ?_
    refine x_ic cd_i78_5 (z := ii 0) rfl ?_
    refine x_n cd_i78_6 rfl rfl ?_
    try dsimp only [List.set]
    show am_to cd_t _ _ 78 7 _ _ _ _ _ _
    refine k5 _ ?_
    refine x_ic cd_i78_27 (z := ii 0) rfl ?_
    refine x_n cd_i78_28 rfl rfl ?_
    try dsimp only [List.set]
    show am_to cd_t _ _ 78 29 _ _ _ _ _ _
    exact q1
  · unfold PR
    constructor
    · exact fun h => h.1
    · intro h
      refine ⟨h, ?_⟩
      cases hr : s.2.1 with
      | none => exact Or.inl rfl
      | some A =>
        have hv := h.rv
        rw [hr] at hv
        exact Or.inr ⟨A, rfl, Or.inl hv.1.1⟩
end STA
