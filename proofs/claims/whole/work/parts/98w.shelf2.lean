section SHG
variable {cs : Nat → Value} {d top sl : Nat} {σ : am_H}
theorem ins_full {L : List Ent} {w : List Nat} {ty : Nat} (h8 : L.length ≤ 8) (hr : roomB L w = false) : ins L (w, ty) = L := by
  unfold ins
  split
  · next h24 =>
    have h24 : w.length ≤ 24 := h24
    unfold roomB at hr
    rw [decide_eq_true h24, Bool.true_and, Bool.or_eq_false_iff, decide_eq_false_iff_not] at hr
    have hL : L.length = 8 := by omega
    have e := posR_stop (A := L) (B := []) (w := w) (fun y hy => by cases hy) (Or.inr ⟨L.take 7, L.getD 7 default, by
      have : L.take 7 ++ [L.getD 7 default] = L.take 8 := by
        rw [show (8 : Nat) = 7 + 1 from rfl, List.take_add_one (l := L) (i := 7), List.getElem?_eq_getElem (by omega), entD_in (by omega)]
        rfl
      rw [this, List.take_of_length_le (by omega)], hr.2⟩)
    rw [List.append_nil] at e
    show (L.take (posR L w) ++ (w, ty) :: L.drop (posR L w)).take 8 = L
    rw [e, List.take_length, List.drop_length, List.take_append_of_le_length (by omega), List.take_of_length_le (by omega)]
  · rfl
def shR (p n i : Nat) : Nat := if i < p then i else if i = p then n else if i ≤ n then i - 1 else i
theorem shR_perm {P : Nat → Nat} {p n : Nat} (h : perm8 P) (hp : p ≤ n) (hn : n ≤ 7) : perm8 (fun i => P (shR p n i)) := by
  have hlt : ∀ i, i < 8 → shR p n i < 8 := fun i hi => by unfold shR; (repeat' split) <;> omega
  have hin : ∀ i j, i < 8 → j < 8 → shR p n i = shR p n j → i = j := fun i j hi hj e => by
    unfold shR at e
    repeat' split at e
    all_goals omega
  exact ⟨fun i hi => h.1 _ (hlt i hi), fun i j hi hj e => hin i j hi hj (h.2 _ _ (hlt i hi) (hlt j hj) e)⟩
theorem x_keep {s p c ty : Nat} {L : List Ent} {P : Nat → Nat} {w : List Nat} (hd : 1 < d) (hpd : p + 1 < s ∨ s + 18 ≤ p) (hS : shf σ s L c P) (hp : phr σ p w ty c) (hw : low7 w) (hL : ∀ e ∈ L, low7 e.1) :
    ∃ (σ' : am_H) (P' : Nat → Nat), am_to cd_t cs d 73 0 (am_ent 4 [.ref s, .ref p]) [] σ top sl (.inl none, σ', top, sl) ∧ shf σ' s (ins L (w, ty)) c P' ∧ ∀ x, x < s ∨ s + 18 ≤ x → σ' x = σ x := by
  have hroom := x_room (cs := cs) (d := d - 1) (top := top) (sl := sl) (by omega) hS hp hw hL
  obtain ⟨h1, h2, ⟨g, h3, h4⟩, h5, h6, h7⟩ := id hS
  obtain ⟨f, hp1, -⟩ := id hp
  cases hr : roomB L w with
  | false =>
    rw [hr] at hroom
    refine ⟨σ, P, ?_, by rw [ins_full h2 hr]; exact hS, fun _ _ => rfl⟩
    refine x_n cd_i73_0 rfl rfl ?_
    refine x_n cd_i73_1 rfl rfl ?_
    show am_to cd_t _ _ 73 2 _ _ _ _ _ _
    refine x_callv (as' := [.ref p]) cd_i73_2 h1 (by omega) rfl rfl rfl rfl rfl rfl hroom ?_
    refine x_if_f cd_i73_5 (fun z => absurd (show b2i false = 0 from rfl) z) ?_
    exact x_end cd_i73_8 rfl rfl rfl
  | true =>
    rw [hr] at hroom
    unfold roomB at hr
    rw [Bool.and_eq_true, decide_eq_true_eq, Bool.or_eq_true, decide_eq_true_eq] at hr
    obtain ⟨h24, hr⟩ := hr
    obtain ⟨n, hn, hnL, hnv⟩ : ∃ n, n ≤ 7 ∧ n ≤ L.length ∧ (L.length < 8 ∧ n = L.length ∨ L.length = 8 ∧ n = 7) := by
      by_cases hl : L.length < 8
      · exact ⟨L.length, by omega, Nat.le_refl _, Or.inl ⟨hl, rfl⟩⟩
      · exact ⟨7, by omega, by omega, Or.inr ⟨by omega, rfl⟩⟩
    have hB : ∀ y ∈ L.drop n, ltT w y.1 = true := by
      intro y hy
      rcases hnv with ⟨a1, a2⟩ | ⟨a1, a2⟩
      · rw [a2, List.drop_length] at hy
        cases hy
      · rcases hr with z | z
        · omega
        · rw [a2, List.drop_eq_getElem_cons (by omega), List.drop_of_length_le (by omega), List.mem_singleton] at hy
          rw [hy, ← entD_in (by omega)]
          exact z
    obtain ⟨s1, hs1, fr1, go1⟩ : ∃ s1 : am_H, s1 s = some (.inr (.inl (10, [.ref (s + 1), .int (ii (n + 1))]))) ∧ (∀ x, x ≠ s → s1 x = σ x) ∧ ∀ res, am_to cd_t cs d 73 31 [some (.ref s), some (.ref p), none, none] [] s1 top sl res → am_to cd_t cs d 73 0 (am_ent 4 [.ref s, .ref p]) [] σ top sl res := by
      have go0 : ∀ res, am_to cd_t cs d 73 18 [some (.ref s), some (.ref p), none, none] [.int (ii 8), .int (ii L.length)] σ top sl res → am_to cd_t cs d 73 0 (am_ent 4 [.ref s, .ref p]) [] σ top sl res := by
        intro res hh
        refine x_n cd_i73_0 rfl rfl ?_
        refine x_n cd_i73_1 rfl rfl ?_
        show am_to cd_t _ _ 73 2 _ _ _ _ _ _
        refine x_callv (as' := [.ref p]) cd_i73_2 h1 (by omega) rfl rfl rfl rfl rfl rfl hroom ?_
        refine x_if_t cd_i73_5 (fun z => absurd (show (1 : Int32) = 0 from z) (by decide)) ?_
        refine x_n cd_i73_9 rfl rfl ?_
        refine x_getf cd_i73_10 h1 rfl rfl ?_
        refine x_n cd_i73_13 rfl rfl ?_
        refine x_getf cd_i73_14 h1 rfl rfl ?_
        exact x_len cd_i73_17 h3 hh
      rcases hnv with ⟨a1, a2⟩ | ⟨a1, a2⟩
      · refine ⟨am_up σ s (.inr (.inl (10, [.ref (s + 1), .int (ii (n + 1))]))), am_up_self _ _ _, fun x hx => am_up_ne _ _ hx, fun res hh => go0 res ?_⟩
        refine x_icmp_f cd_i73_18 (fun z => by have := (ii_le (by omega) (by omega)).mp (show ii 8 ≤ ii L.length from z); omega) ?_
        refine x_n cd_i73_21 rfl rfl ?_
        refine x_n cd_i73_22 rfl rfl ?_
        show am_to cd_t _ _ 73 23 _ _ _ _ _ _
        refine x_getf cd_i73_23 h1 rfl rfl ?_
        refine x_ic cd_i73_26 (z := ii 1) rfl ?_
        refine x_iadd cd_i73_27 (z := ii (n + 1)) (by rw [ii_add, a2]) ?_
        refine x_putf cd_i73_28 (fs' := [.ref (s + 1), .int (ii (n + 1))]) h1 rfl rfl rfl ?_
        exact hh
      · refine ⟨σ, by rw [h1, a1, a2], fun _ _ => rfl, fun res hh => go0 res (x_icmp_t cd_i73_18 ((ii_le (by decide) (by omega)).mpr (by omega)) hh)⟩
    have kp : ∀ {q ty co : Nat} {v : List Nat}, q ≠ s → q + 1 ≠ s → phr σ q v ty co → phr s1 q v ty co := fun h1 h2 h => h.kept (fr1 _ h1) (fr1 _ h2)
    obtain ⟨s2, h', c1, c2, c3, c4, c5, c6, c7⟩ := x_keep_loop (cs := cs) (d := d) (top := top) (sl := sl) (s := s) (p := p) (n := n) (v3 := .ref (pad s P n)) (c := c) (by omega) hpd h6 hw hL h2 hn hnL n s1 g (Nat.le_refl _) hs1 ((fr1 _ (by omega)).trans h3) (fun i hi => h4 i (by omega)) (fun i hi1 hi2 => by omega) (fun i hi1 hi2 => h4 i hi2) (kp (by omega) (by omega) hp) (fun i hi => by
      obtain ⟨a1, a2, a3, a4⟩ := h5 i hi
      exact ⟨a1, a2, a3, kp (by unfold pad; omega) (by unfold pad; omega) a4⟩) (fun i hi => kp (by unfold pad; omega) (by unfold pad; omega) (h7 i hi)) hB
    have ins_e : ins L (w, ty) = (L.take (posR L w) ++ (w, ty) :: L.drop (posR L w)).take 8 := by unfold ins; rw [if_pos h24]
    rw [ins_e]
    generalize posR L w = k at c1 c3 c4 c7
    have fr2 : ∀ x, x ≠ s → x ≠ s + 1 → s2 x = σ x := fun x x1 x2 => (c6 x x2).trans (fr1 x x1)
    have kp2 : ∀ {q ty co : Nat} {v : List Nat}, (q + 1 < s ∨ s + 1 < q) → phr σ q v ty co → phr s2 q v ty co := fun h1 h => h.kept (fr2 _ (by omega) (by omega)) (fr2 _ (by omega) (by omega))
    obtain ⟨wn, tn, cn, hpn⟩ := h5 n (by omega)
    have hPn := h6.1 n (by omega)
    have hpn2 := kp2 (by unfold pad; omega) hpn
    obtain ⟨fn, hpn1, -⟩ := id hpn2
    have hs2 : s2 s = some (.inr (.inl (10, [.ref (s + 1), .int (ii (n + 1))]))) := (c6 s (by omega)).trans hs1
    obtain ⟨s3, hs3⟩ : ∃ t, t = am_up s2 (s + 1) (.inl (.object "ChainDesk$Phrase", 8, .inr (.inr (.inr (.inr (va_up h' k (some (pad s P n)))))))) := ⟨_, rfl⟩
    have fr3 : ∀ x, x ≠ s + 1 → s3 x = s2 x := fun x hx => by rw [hs3, am_up_ne _ _ hx]
    have kp3 : ∀ {q ty co : Nat} {v : List Nat}, (q + 1 < s ∨ s + 1 < q) → phr σ q v ty co → phr s3 q v ty co := fun h1 h => (kp2 h1 h).kept (fr3 _ (by omega)) (fr3 _ (by omega))
    have hpp := kp3 (by omega) hp
    have hpn3 := kp3 (by unfold pad; omega) hpn
    obtain ⟨s4, b1, b2, b3⟩ := x_phCopy (cs := cs) (d := d - 1) (top := top) (sl := sl) (by omega) hpn3 hpp (by unfold pad; omega) (by unfold pad; omega) (by unfold pad; omega)
    have hlen : ((L.take k ++ (w, ty) :: L.drop k).take 8).length = n + 1 := by
      rw [List.length_take, List.length_append, List.length_take, List.length_cons, List.length_drop]
      omega
    have hge : ∀ i, i < n + 1 → ((L.take k ++ (w, ty) :: L.drop k).take 8).getD i default = if i < k then L.getD i default else if i = k then (w, ty) else L.getD (i - 1) default := fun i hi => by
      rw [← ins_getD (show k ≤ L.length by omega), List.getD_eq_getElem?_getD, List.getD_eq_getElem?_getD, List.getElem?_take, if_pos (by omega)]
    have hneP : ∀ i, i < 8 → i ≠ n → P i ≠ P n := fun i hi hne e => hne (h6.2 i n hi (by omega) e)
    have hPl : ∀ i, i < 8 → P i < 8 := h6.1
    have hpm := shR_perm h6 c1 hn
    have kp4 : ∀ {i ty co : Nat} {v : List Nat}, i < 8 → i ≠ n → phr σ (pad s P i) v ty co → phr s4 (pad s P i) v ty co := fun {i} _ _ _ hi hne h => by
      have := hneP i hi hne
      exact (kp3 (by unfold pad; omega) h).kept (b3 _ (by unfold pad; omega) (by unfold pad; omega)) (b3 _ (by unfold pad; omega) (by unfold pad; omega))
    refine ⟨s4, fun i => P (shR k n i), go1 _ ?_, ⟨?_, by rw [hlen]; omega, ⟨va_up h' k (some (pad s P n)), ?_, fun i hi => ?_⟩, fun i hi => ?_, hpm, fun i hi => ?_⟩, fun x hx => ?_⟩
    · refine x_n cd_i73_31 rfl rfl ?_
      refine x_getf cd_i73_32 hs1 rfl rfl ?_
      refine x_ic cd_i73_35 (z := ii 1) rfl ?_
      refine x_isub cd_i73_36 (z := ii n) (ii_sub (b := 1) (by omega)) ?_
      refine x_n cd_i73_37 rfl rfl ?_
      try dsimp only [List.set]
      refine x_n cd_i73_38 rfl rfl ?_
      show am_to cd_t _ _ 73 39 _ _ _ _ _ _
      refine x_getf cd_i73_39 hs1 rfl rfl ?_
      refine x_n cd_i73_42 rfl rfl ?_
      refine x_aaload cd_i73_43 ((fr1 (s + 1) (by omega)).trans h3) (by omega) (by decide) ?_
      rw [h4 n (by omega)]
      refine x_n cd_i73_44 rfl rfl ?_
      try dsimp only [List.set]
      show am_to cd_t _ _ 73 45 _ _ _ _ _ _
      refine c7 _ ?_
      refine x_n cd_i73_84 rfl rfl ?_
      refine x_getf cd_i73_85 hs2 rfl rfl ?_
      refine x_n cd_i73_88 rfl rfl ?_
      refine x_n cd_i73_89 rfl rfl ?_
      show am_to cd_t _ _ 73 90 _ _ _ _ _ _
      refine x_aastore cd_i73_90 c2 hpn1 rfl (by omega) (by decide) ?_
      refine hs3 ▸ ?_
      refine x_n cd_i73_91 rfl rfl ?_
      refine x_n cd_i73_92 rfl rfl ?_
      show am_to cd_t _ _ 73 93 _ _ _ _ _ _
      obtain ⟨fq, hq1, -⟩ := id hpn3
      refine x_callv (as' := [.ref p]) (r := none) cd_i73_93 hq1 (by omega) rfl rfl rfl rfl rfl rfl b1 ?_
      exact x_end cd_i73_96 rfl rfl rfl
    · rw [hlen, b3 s (by unfold pad; omega) (by unfold pad; omega), fr3 s (by omega), hs2]
    · rw [b3 _ (by unfold pad; omega) (by unfold pad; omega), hs3, am_up_self]
    · show va_up h' k (some (pad s P n)) i = some (s + 2 + 2 * P (shR k n i))
      unfold va_up shR
      by_cases e1 : i < k
      · rw [if_neg (by omega), if_pos e1]
        exact c3 i e1
      · rw [if_neg e1]
        by_cases e2 : i = k
        · rw [if_pos e2, if_pos e2]
        · rw [if_neg e2, if_neg e2]
          by_cases e3 : i ≤ n
          · rw [if_pos e3]
            exact c4 i (by omega) e3
          · rw [if_neg e3]
            exact c5 i (by omega) hi
    · show ∃ w ty co, phr s4 (s + 2 + 2 * P (shR k n i)) w ty co
      have hsr : shR k n i < 8 := by unfold shR; (repeat' split) <;> omega
      by_cases en : shR k n i = n
      · rw [en]
        exact ⟨_, _, _, b2⟩
      · obtain ⟨a1, a2, a3, a4⟩ := h5 (shR k n i) hsr
        exact ⟨a1, a2, a3, kp4 hsr en a4⟩
    · rw [hlen] at hi
      rw [hge i hi]
      show phr s4 (s + 2 + 2 * P (shR k n i)) _ _ c
      unfold shR
      by_cases e1 : i < k
      · rw [if_pos e1, if_pos e1]
        exact kp4 (by omega) (by omega) (h7 i (by omega))
      · rw [if_neg e1, if_neg e1]
        by_cases e2 : i = k
        · rw [if_pos e2, if_pos e2]
          exact b2
        · rw [if_neg e2, if_neg e2, if_pos (by omega)]
          exact kp4 (by omega) (by omega) (h7 (i - 1) (by omega))
    · rw [b3 x (by unfold pad; omega) (by unfold pad; omega), fr3 x (by omega), fr2 x (by omega) (by omega)]
end SHG
