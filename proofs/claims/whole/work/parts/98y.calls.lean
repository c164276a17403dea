/-! the arguments of a call, one after the other -/
def RV (dec : Nat → Option Dec) (pl : Int32) (K : Nat → List Ent) (c : Nat) (q : Nat × Nat) (r : Option Ent) : Prop := match r with
  | none => ((memQ dec q).2.2.1 = true ∨ (memQ dec q).1 = 2) ∧ usB pl q.1 (memQ dec q) = true
  | some e => inK K c e ∧ 3 ≤ e.2 ∧ snB dec pl (e.2 - 3) q.1 q.2 = true
def KC (cs : Nat → Value) (ad : Nat → Nat) (b hi : Nat) (dec : Nat → Option Dec) (pl : Int32) (da : Nat → Nat) (ea : Nat → Nat → Nat) (K : Nat → List Ent) (c : Nat) (z : Int32) (x j : Nat) (r : Option Ent) (top sl d n : Nat) : Prop :=
  ∀ (as : List Ent) (left : Nat) (σ : am_H) (L : List Ent) (P0 : Tup → Prop), as.length + n = (memQ dec (x, j)).2.2.2.2.1.length → (∀ u ∈ as, inK K c u) → fitsL dec as ((memQ dec (x, j)).2.2.2.2.1.take as.length) → 1 + recC r + sumC as + left = c →
  cen ad σ b hi dec pl da ea K c z → tgt σ b c L → phr σ (b + 14) ((preT (memQ dec (x, j)) (x, j) r ++ 40 :: argT as).take 25) (memQ dec (x, j)).2.2.2.2.2 c → (∀ s, P0 s → Val dec pl K c s) → (∀ s, P0 s → ¬ NA (x, j) r as s) → L8 (ImT dec P0) L →
  ∃ (σ' : am_H) (L' : List Ent) (w' : List Nat), am_to cd_t cs d 83 0 (am_ent 11 [.ref (b + 11), .ref (ea x j), .int (ii as.length), .int (ii left)]) [] σ top sl (.inl none, σ', top, sl) ∧ FR b c σ σ' ∧ tgt σ' b c L' ∧ phr σ' (b + 14) ((preT (memQ dec (x, j)) (x, j) r ++ 40 :: argT as).take 25 ++ w') (memQ dec (x, j)).2.2.2.2.2 c ∧ L8 (ImT dec (fun s => P0 s ∨ (Val dec pl K c s ∧ NA (x, j) r as s))) L'
def Pc (dec : Nat → Option Dec) (pl : Int32) (K : Nat → List Ent) (c : Nat) (q : Nat × Nat) (r : Option Ent) (as : List Ent) (P0 : Tup → Prop) (cost i : Nat) (s : Tup) : Prop := P0 s ∨ (Val dec pl K c s ∧ s.1 = q ∧ s.2.1 = r ∧ ∃ A bs, s.2.2 = as ++ A :: bs ∧ (cst A.1 < cost ∨ (cst A.1 = cost ∧ A ∈ (K cost).take i)))
theorem cen.mem {ad : Nat → Nat} {σ : am_H} {b hi : Nat} {dec : Nat → Option Dec} {pl : Int32} {da : Nat → Nat} {ea : Nat → Nat → Nat} {K : Nat → List Ent} {c x j : Nat} {z : Int32} {D : Dec} (h : cen ad σ b hi dec pl da ea K c z) (hx : x < 10) (hD : dec x = some D) (hj : j < D.2.length) :
    ∃ (mp : Nat) (mf : Nat → Int32), σ (ea x j) = some (.inr (.inl (7, [.ref (ad (memQ dec (x, j)).1), .int (b2i (memQ dec (x, j)).2.1), .int (b2i (memQ dec (x, j)).2.2.1), .int (ii (n256 (memQ dec (x, j)).2.2.2.1)), .ref mp, .int (ii (memQ dec (x, j)).2.2.2.2.1.length), .int (ii (memQ dec (x, j)).2.2.2.2.2)]))) ∧ σ mp = some (.inl (.int, 2, .inl mf)) ∧ (memQ dec (x, j)).2.2.2.2.1.length ≤ 2 ∧ ∀ k, k < (memQ dec (x, j)).2.2.2.2.1.length → mf k = ii ((memQ dec (x, j)).2.2.2.2.1.getD k 0) := by
  have em : memQ dec (x, j) = D.2.getD j default := by unfold memQ memsOf; rw [hD]
  obtain ⟨q1, q2, qr, qg, q3, q4, q5, q6, q7, q8⟩ := h.1.2.2.1 x D hx hD
  obtain ⟨m1, m2, mp, mf, m3, m4, m5, m6, m7, m8⟩ := (q8 j hj).2
  rw [em]
  exact ⟨mp, mf, m5, m6, m7, m8⟩
theorem RV.low {dec : Nat → Option Dec} {pl : Int32} {K : Nat → List Ent} {c : Nat} {q : Nat × Nat} {r : Option Ent} (h : RV dec pl K c q r) (hK : Kok K c) : ∀ e, r = some e → low7 e.1 := fun e he x hx => by
  rw [he] at h
  exact ((h.1.good hK).2.2.2 x hx).2
theorem Val.mk {dec : Nat → Option Dec} {pl : Int32} {K : Nat → List Ent} {c x j : Nat} {r : Option Ent} {as : List Ent} {D : Dec} (hD : dec x = some D) (hj : j < D.2.length) (h : RV dec pl K c (x, j) r) (h2 : ∀ u ∈ as, inK K c u) (h3 : fitsL dec as (memQ dec (x, j)).2.2.2.2.1) (h4 : 1 + recC r + sumC as = c) : Val dec pl K c ((x, j), r, as) := by
  refine ⟨⟨D, hD, hj⟩, ?_, h2, h3, h4⟩
  cases r with
  | none => exact h
  | some e => exact h
section KCS
variable {cs : Nat → Value} {ad : Nat → Nat} {b hi : Nat} {dec : Nat → Option Dec} {pl : Int32} {da : Nat → Nat} {ea : Nat → Nat → Nat} {K : Nat → List Ent} {c : Nat} {z : Int32} {x j : Nat} {r : Option Ent} {top sl d n : Nat} {rk : Nat → Nat} {D : Dec}
theorem kc_head {σ : am_H} {L : List Ent} {w : List Nat} {ty : Nat} {v1 v2 v3 : Value} {lv : am_V} (hd : 2 < d) (hE : cen ad σ b hi dec pl da ea K c z) (hT : tgt σ b c L) (hp : phr σ (b + 14) w ty c) (hw : low7 w) (hL : ∀ e ∈ L, low7 e.1) :
    ∀ res, am_to cd_t cs d 83 11 (some (.ref (b + 11)) :: lv) [.int (b2i (roomB L w))] σ top sl res → am_to cd_t cs d 83 0 (some (.ref (b + 11)) :: lv) [] σ top sl res := by
  intro res hh
  obtain ⟨P, hS⟩ := hT
  have hr := x_room (cs := cs) (d := d - 1) (top := top) (sl := sl) (by omega) hS hp hw hL
  have h11 := hE.2.1
  have hS1 := hS.1
  refine x_n cd_i83_0 rfl rfl ?_
  refine x_getf cd_i83_1 h11 rfl rfl ?_
  refine x_n cd_i83_4 rfl rfl ?_
  refine x_getf cd_i83_5 h11 rfl rfl ?_
  exact x_callv (as' := [.ref (b + 14)]) cd_i83_8 hS1 (by omega) rfl rfl rfl rfl rfl rfl hr hh
/-- nothing of it finds room -/
theorem kc_none {as : List Ent} {L : List Ent} {P0 : Tup → Prop} (hnf : (memQ dec (x, j)).1 ≠ 0) (hL : L8 (ImT dec P0) L) (hr : roomB L ((preT (memQ dec (x, j)) (x, j) r ++ 40 :: argT as).take 25) = false) : L8 (ImT dec (fun s => P0 s ∨ (Val dec pl K c s ∧ NA (x, j) r as s))) L := by
  refine ImT_prune hL (fun s hs => ?_)
  obtain ⟨R, hR, e⟩ := NA_text hs.2 hnf
  refine room_none hL.1 hL.2.1 hr ⟨(preT (memQ dec (x, j)) (x, j) r ++ 40 :: argT as).drop 25 ++ R, ?_⟩ (Or.inl (fun w => ?_))
  · rw [← List.append_assoc, List.take_append_drop]
    exact e
  · have l1 := congrArg List.length (e.symm.trans w)
    rw [List.length_append, List.length_take] at l1
    have := List.length_pos_iff.mpr hR
    omega
theorem kc_zero (hd : 2 < d) (hO : catOk dec) (hrk : ranked dec rk) (hK : Kok K c) (hc4 : c < 4) (hD : dec x = some D) (hj : j < D.2.length) (hnf : (memQ dec (x, j)).1 ≠ 0) (hrv : RV dec pl K c (x, j) r) : KC cs ad b hi dec pl da ea K c z x j r top sl d 0 := by
  intro as left σ L P0 hn has hft hcst hE hT hp hP hP0 hL
  have hx := (hrk x D hD).1
  have em : memQ dec (x, j) = D.2.getD j default := by unfold memQ memsOf; rw [hD]
  have hMok : memOk (memQ dec (x, j)) := by rw [em]; exact (hO x D hD).2.1 _ (getD_mem hj)
  have hWl : low7 (preT (memQ dec (x, j)) (x, j) r ++ 40 :: argT as) := low7_app (preT_low hMok hx (hrv.low hK)) (low7_cons (by decide) (argT_low as (fun u hu => ((has u hu).good hK).2.2.2)))
  have hLl := L8_low hO hrk hK hP hL
  have head := kc_head (cs := cs) (top := top) (sl := sl) (lv := [some (.ref (ea x j)), some (.int (ii as.length)), some (.int (ii left)), none, none, none, none, none, none, none]) (v1 := .null) (v2 := .null) (v3 := .null) hd hE hT hp (low7_take hWl 25) hLl
  cases hr : roomB L ((preT (memQ dec (x, j)) (x, j) r ++ 40 :: argT as).take 25) with
  | false =>
    rw [hr] at head
    refine ⟨σ, L, [], head _ ?_, FR.refl b c σ, hT, by rw [List.append_nil]; exact hp, kc_none hnf hL hr⟩
    refine x_if_f cd_i83_11 (fun z => absurd (show b2i false = 0 from rfl) z) ?_
    exact x_end cd_i83_14 rfl rfl rfl
  | true =>
    rw [hr] at head
    obtain ⟨mp, mf, e1, e2, e3, e4⟩ := hE.mem hx hD hj
    have h11 := hE.2.1
    have go : ∀ res, am_to cd_t cs d 83 24 [some (.ref (b + 11)), some (.ref (ea x j)), some (.int (ii as.length)), some (.int (ii left)), none, none, none, none, none, none, none] [.int (ii left)] σ top sl res → am_to cd_t cs d 83 0 (am_ent 11 [.ref (b + 11), .ref (ea x j), .int (ii as.length), .int (ii left)]) [] σ top sl res := by
      intro res hh
      refine head res ?_
      refine x_if_t cd_i83_11 (fun z => absurd (show (1 : Int32) = 0 from z) (by decide)) ?_
      refine x_n cd_i83_15 rfl rfl ?_
      refine x_n cd_i83_16 rfl rfl ?_
      refine x_getf cd_i83_17 (by assumption) rfl rfl ?_
      show am_to cd_t _ _ 83 20 _ _ _ _ _ _
      refine x_icmp_f cd_i83_20 (fun z => by have := (ii_lt (by omega) (by omega)).mp (show ii as.length < ii (memQ dec (x, j)).2.2.2.2.1.length from z); omega) ?_
      refine x_n cd_i83_23 rfl rfl ?_
      show am_to cd_t _ _ 83 24 _ _ _ _ _ _
      exact hh
    have hlen : as.length = (memQ dec (x, j)).2.2.2.2.1.length := by omega
    have hft' : fitsL dec as (memQ dec (x, j)).2.2.2.2.1 := by
      rw [List.take_of_length_le (by omega)] at hft
      exact hft
    have only : ∀ s, Val dec pl K c s → NA (x, j) r as s → s = ((x, j), r, as) := by
      intro s hv hs
      obtain ⟨h1, h2, bs, h3⟩ := hs
      have l1 := fitsL_len hv.2.2.2.1
      rw [h3, h1, List.length_append] at l1
      have : bs = [] := List.length_eq_zero_iff.mp (by omega)
      rw [this, List.append_nil] at h3
      obtain ⟨s1, s2, s3⟩ := s
      rw [show s1 = (x, j) from h1, show s2 = r from h2, show s3 = as from h3]
    by_cases h0 : left = 0
    · rw [h0] at hcst
      have hv := Val.mk hD hj hrv has hft' hcst
      obtain ⟨s1, b1, b2, b3⟩ := x_phAdd (cs := cs) (d := d - 1) (top := top) (sl := sl) (c := 41) hp (by decide)
      rw [take_app25] at b2
      have eT : txT dec ((x, j), r, as) = (preT (memQ dec (x, j)) (x, j) r ++ 40 :: argT as) ++ [41] := by
        unfold txT tailT
        show preT (memQ dec (x, j)) (x, j) r ++ (if (memQ dec (x, j)).1 = 0 then [] else 40 :: argT as ++ [41]) = _
        rw [if_neg hnf]
        simp only [List.append_assoc, List.cons_append]
      rw [← eT] at b2
      have hE1 := hE.kept hc4 (FR.draft b3)
      obtain ⟨P, hS⟩ := hT.draft b3
      obtain ⟨s2, P2, k1, k2, k3⟩ := x_keep (cs := cs) (d := d - 1) (top := top) (sl := sl) (by omega) (by omega) hS b2 (low7_take (fun y hy => (hv.let hO hrk hK y hy).2) 25) hLl
      rw [ins_take25] at k2
      have hfr : FR b c σ s2 := (FR.draft b3).trans (FR.shelf k3)
      have g1 := hE1.2.1
      have hp1 := hp.at
      have hS1 := hS.1
      obtain ⟨w', hw'⟩ : ∃ w', (txT dec ((x, j), r, as)).take 25 = (preT (memQ dec (x, j)) (x, j) r ++ 40 :: argT as).take 25 ++ w' := ⟨_, by rw [eT, List.take_append]⟩
      refine ⟨s2, _, w', go _ ?_, hfr, ⟨P2, k2⟩, ?_, ?_⟩
      · rw [h0]
        refine x_if_f cd_i83_24 (fun z => absurd (show ii 0 = 0 from rfl) z) ?_
        refine x_n cd_i83_27 rfl rfl ?_
        refine x_getf cd_i83_28 h11 rfl rfl ?_
        refine x_bi cd_i83_31 (z := ii 41) (by decide) ?_
        refine x_callv (as' := [.int (ii 41)]) (r := none) cd_i83_33 hp1 (by omega) rfl rfl rfl rfl rfl rfl b1 ?_
        refine x_n cd_i83_36 rfl rfl ?_
        refine x_getf cd_i83_37 g1 rfl rfl ?_
        refine x_n cd_i83_40 rfl rfl ?_
        refine x_getf cd_i83_41 g1 rfl rfl ?_
        refine x_callv (as' := [.ref (b + 14)]) (r := none) cd_i83_44 hS1 (by omega) rfl rfl rfl rfl rfl rfl k1 ?_
        exact x_end cd_i83_47 rfl rfl rfl
      · rw [← hw']
        exact b2.kept (k3 _ (by omega)) (k3 _ (by omega))
      · refine ImT_iff (L8_step hO hrk hK hP hv (fun z => hP0 _ z ⟨rfl, rfl, [], (List.append_nil _).symm⟩) hL) (fun s => ?_)
        constructor
        · rintro (h | h)
          · exact Or.inl h
          · rw [h]
            exact Or.inr ⟨hv, rfl, rfl, [], (List.append_nil _).symm⟩
        · rintro (h | ⟨h, h'⟩)
          · exact Or.inl h
          · exact Or.inr (only s h h')
    · refine ⟨σ, L, [], go _ ?_, FR.refl b c σ, hT, by rw [List.append_nil]; exact hp, ImT_iff hL (fun s => ?_)⟩
      · refine x_if_t cd_i83_24 (fun z => h0 ((ii_eq (b := 0) (by omega) (by decide)).mp z)) ?_
        exact x_end cd_i83_47 rfl rfl rfl
      · constructor
        · exact Or.inl
        · rintro (h | ⟨h, h'⟩)
          · exact h
          · have h5 := h.2.2.2.2
            rw [only s h h'] at h5
            have h5 : 1 + recC r + sumC as = c := h5
            omega
end KCS
