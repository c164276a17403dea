/-! a whole declaration, in the reference -/
/-- the rows of what is declared stay -/
def M_low (a a' : Nat → Nat → Int32) : Prop := ∀ k q, (k < 5 ∨ 11 < k ∨ (k ≤ 10 ∧ q < 60) ∨ (k = 11 ∧ q < 120)) → a' k q = a k q
theorem M_low.refl (a : Nat → Nat → Int32) : M_low a a := fun _ _ _ => rfl
theorem M_low.trans {a a1 a2 : Nat → Nat → Int32} (h : M_low a a1) (h' : M_low a1 a2) : M_low a a2 := fun k q hk => (h' k q hk).trans (h k q hk)
theorem M_row.low {r : Nat} {a a' : Nat → Nat → Int32} (h : M_row r a a') (hr : 60 ≤ r) : M_low a a' := fun k q hk => h k q (by omega)
theorem M_mem.row {r r' : Nat} {a a' : Nat → Nat → Int32} {M : Mem} (h : M_mem a r' M) (hr : M_row r a a') (hne : r' ≠ r) (hl : M.2.2.2.2.1.length ≤ 2) : M_mem a' r' M := by
  obtain ⟨h1, h2, h3, h4, h5, h6, h7⟩ := h
  refine ⟨(hr 5 r' (by omega)).trans h1, (hr 6 r' (by omega)).trans h2, (hr 7 r' (by omega)).trans h3, (hr 8 r' (by omega)).trans h4, (hr 9 r' (by omega)).trans h5, (hr 10 r' (by omega)).trans h6, fun j hj => (hr 11 _ (by omega)).trans (h7 j hj)⟩
theorem M_cat.low {a a' : Nat → Nat → Int32} {dec : Nat → Option Dec} (h : M_cat a dec) (hO : catOk dec) (hl : M_low a a') : M_cat a' dec := by
  intro c hc
  obtain ⟨h1, h2⟩ := h c hc
  refine ⟨fun hn => (hl 2 c (by omega)).trans (h1 hn), fun D hD => ?_⟩
  obtain ⟨q1, q2, q3, q4, q5⟩ := h2 D hD
  refine ⟨(hl 2 c (by omega)).trans q1, (hl 3 c (by omega)).trans q2, (hl 4 c (by omega)).trans q3, q4, fun k hk => ?_⟩
  have hm := ((hO c D hD).2.1 _ (getD_mem hk)).2.2.2.2.1
  obtain ⟨h1, h2, h3, h4, h5, h6, h7⟩ := q5 k hk
  refine ⟨(hl 5 _ (by omega)).trans h1, (hl 6 _ (by omega)).trans h2, (hl 7 _ (by omega)).trans h3, (hl 8 _ (by omega)).trans h4, (hl 9 _ (by omega)).trans h5, (hl 10 _ (by omega)).trans h6, fun j hj => (hl 11 _ (by omega)).trans (h7 j hj)⟩
def pRs (dec : Nat → Option Dec) (par : Option Nat) (c : Nat) (txt : List Nat) : Nat → Bool → Nat → List Mem → Option (List Mem × Nat)
  | 0, _, p, ms => if txt.getD p 0 = 125 then some (ms, p + 1) else none
  | n + 1, f, p, ms => if txt.getD p 0 = 125 then some (ms, p + 1) else if f = true ∨ txt.getD p 0 = 59 then (match pMem txt (if f = true then p else p + 1) c with
      | none => none
      | some R => if okM dec par ms R.1 = true then pRs dec par c txt n false R.2 (ms ++ [R.1]) else none) else none
theorem pMs_eq (dec : Nat → Option Dec) (par : Option Nat) (c : Nat) (txt : List Nat) : ∀ (n p : Nat) (ms : List Mem), pMs dec par c txt (n + 1) p ms = (match pMem txt p c with
      | none => none
      | some R => if okM dec par ms R.1 = true then pRs dec par c txt n false R.2 (ms ++ [R.1]) else none) := by
  intro n
  induction n with
  | zero =>
    intro p ms
    rw [pMs]
    cases pMem txt p c with
    | none => rfl
    | some R =>
      dsimp only
      by_cases ho : okM dec par ms R.1 = true
      · rw [if_pos ho, if_pos ho, pRs, pMs]
        by_cases h1 : txt.getD R.2 0 = 59
        · rw [if_pos h1, if_neg (by rw [h1]; decide)]
        · rw [if_neg h1]
      · rw [if_neg ho, if_neg ho]
  | succ n ih =>
    intro p ms
    rw [pMs]
    cases pMem txt p c with
    | none => rfl
    | some R =>
      dsimp only
      by_cases ho : okM dec par ms R.1 = true
      · rw [if_pos ho, if_pos ho, pRs, ih]
        by_cases h1 : txt.getD R.2 0 = 59
        · rw [if_pos h1, if_neg (by rw [h1]; decide), if_pos (Or.inr h1), if_neg (by decide)]
        · rw [if_neg h1]
          by_cases h2 : txt.getD R.2 0 = 125
          · rw [if_pos h2, if_pos h2]
          · rw [if_neg h2, if_neg h2, if_neg (by rintro (h | h); cases h; exact h1 h)]
      · rw [if_neg ho, if_neg ho]
theorem pMbs_eq (dec : Nat → Option Dec) (par : Option Nat) (c : Nat) (txt : List Nat) (p : Nat) : pMbs dec par c txt p = pRs dec par c txt 6 true p [] := by
  unfold pMbs
  rw [pMs_eq, pRs]
  by_cases h : txt.getD p 0 = 125
  · rw [if_pos h, if_pos h]
  · rw [if_neg h, if_neg h, if_pos (Or.inl rfl), if_pos rfl]
section RD
variable {cs : Nat → Value} {d m top sl : Nat} {txt : List Nat} {dec : Nat → Option Dec}
/-- a member beside those before it -/
theorem m_dist_loop {a : Nat → Nat → Int32} {ms : List Mem} {M : Mem} {c' : Value} (hd : 0 < d) (hl : ms.length < 6) (hms : ∀ N ∈ ms, memOk N) (hrows : ∀ k, k < ms.length → M_mem a (60 + k) (ms.getD k default)) (h : M_mem a (60 + ms.length) M) (hm : memOk M) :
    ∀ (n j : Nat) (σ : am_H) (i : Nat → Int32) (g : Bool), j + n = ms.length → mo σ m i a → i 4 = b2i g →
      ∃ (σ' : am_H) (i' : Nat → Int32) (s : Bool) (v3 : Option Value), (s = true ↔ g = true ∧ ∀ q, j ≤ q → q < ms.length → isNm M.1 M.2.2.2.1 (ms.getD q default) = false) ∧ mo σ' m i' a ∧ i' 4 = b2i s ∧ (∀ q, q ≠ 4 → i' q = i q) ∧ (∀ x, x < m ∨ m + 25 ≤ x → σ' x = σ x) ∧
        ∀ res, am_to cd_t cs d 103 201 [some (.ref m), some c', some (.int (ii (60 + ms.length))), v3] [] σ' top sl res → am_to cd_t cs d 103 144 [some (.ref m), some c', some (.int (ii (60 + ms.length))), some (.int (ii (60 + j)))] [] σ top sl res := by
  intro n
  induction n with
  | zero =>
    intro j σ i g hj hM hG
    refine ⟨σ, i, g, some (.int (ii (60 + j))), ⟨fun hg => ⟨hg, fun q h1 h2 => absurd h2 (by omega)⟩, fun h => h.1⟩, hM, hG, fun _ _ => rfl, fun _ _ => rfl, fun res hh => ?_⟩
    refine x_n cd_i103_144 rfl rfl ?_
    refine x_n cd_i103_145 rfl rfl ?_
    show am_to cd_t _ _ 103 146 _ _ _ _ _ _
    exact x_icmp_t cd_i103_146 ((ii_le (by omega) (by omega)).mpr (by omega)) hh
  | succ n ih =>
    intro j σ i g hj hM hG
    have hjl : j < ms.length := by omega
    have go : ∀ res, am_to cd_t cs d 103 153 [some (.ref m), some c', some (.int (ii (60 + ms.length))), some (.int (ii (60 + j)))] [.int (b2i g)] σ top sl res → am_to cd_t cs d 103 144 [some (.ref m), some c', some (.int (ii (60 + ms.length))), some (.int (ii (60 + j)))] [] σ top sl res := by
      intro res hh
      refine x_n cd_i103_144 rfl rfl ?_
      refine x_n cd_i103_145 rfl rfl ?_
      show am_to cd_t _ _ 103 146 _ _ _ _ _ _
      refine x_icmp_f cd_i103_146 (fun z => by have := (ii_le (by omega) (by omega)).mp (show ii (60 + ms.length) ≤ ii (60 + j) from z); omega) ?_
      refine x_n cd_i103_149 rfl rfl ?_
      show am_to cd_t _ _ 103 150 _ _ _ _ _ _
      refine x_getf cd_i103_150 hM.1 (congrArg (fun z => some (Value.int z)) (hG)) rfl ?_
      exact hh
    cases g with
    | false =>
      refine ⟨σ, i, false, some (.int (ii (60 + j))), ⟨(fun h => by cases h), (fun h => by cases h.1)⟩, hM, hG, fun _ _ => rfl, fun _ _ => rfl, fun res hh => go res ?_⟩
      exact x_if_t cd_i103_153 rfl hh
    | true =>
      obtain ⟨h1, h2, h3, h4, h5, h6, h7⟩ := h
      obtain ⟨g1, g2, g3, g4, g5, g6, g7⟩ := hrows j hjl
      have hn := hms _ (getD_mem hjl)
      have mk := hm.1
      have nk := hn.1
      have main : ∀ s : Bool, (s = true ↔ isNm M.1 M.2.2.2.1 (ms.getD j default) = false) → (∀ res, am_to cd_t cs d 103 192 [some (.ref m), some c', some (.int (ii (60 + ms.length))), some (.int (ii (60 + j)))] [.int (b2i s), .ref m] σ top sl res → am_to cd_t cs d 103 144 [some (.ref m), some c', some (.int (ii (60 + ms.length))), some (.int (ii (60 + j)))] [] σ top sl res) →
          ∃ (σ' : am_H) (i' : Nat → Int32) (s : Bool) (v3 : Option Value), (s = true ↔ true = true ∧ ∀ q, j ≤ q → q < ms.length → isNm M.1 M.2.2.2.1 (ms.getD q default) = false) ∧ mo σ' m i' a ∧ i' 4 = b2i s ∧ (∀ q, q ≠ 4 → i' q = i q) ∧ (∀ x, x < m ∨ m + 25 ≤ x → σ' x = σ x) ∧
        ∀ res, am_to cd_t cs d 103 201 [some (.ref m), some c', some (.int (ii (60 + ms.length))), v3] [] σ' top sl res → am_to cd_t cs d 103 144 [some (.ref m), some c', some (.int (ii (60 + ms.length))), some (.int (ii (60 + j)))] [] σ top sl res := by
        intro s hs hgo
        obtain ⟨s1, b1, b2, b3⟩ := m_must (cs := cs) (d := d - 1) (top := top) (sl := sl) (s := s) (g := true) hM hG
        rw [Bool.true_and] at b2
        obtain ⟨s2, i2, s', v3, k1, k2, k3, k4, k5, k6⟩ := ih (j + 1) s1 _ s (by omega) b2 rfl
        refine ⟨s2, i2, s', v3, ?_, k2, k3, fun q hq => (k4 q hq).trans (upd_ne hq), fun x hx => (k5 x hx).trans (b3 x hx), fun res hh => hgo res ?_⟩
        · rw [k1, hs]
          constructor
          · rintro ⟨y1, y2⟩
            refine ⟨rfl, fun q hq1 hq2 => ?_⟩
            by_cases e : q = j
            · rw [e]; exact y1
            · exact y2 q (by omega) hq2
          · rintro ⟨-, y2⟩
            exact ⟨y2 j (Nat.le_refl _) hjl, fun q hq1 hq2 => y2 q (by omega) hq2⟩
        · refine x_callv (as' := [.int (b2i s)]) (r := none) cd_i103_192 hM.1 (by omega) rfl rfl rfl rfl rfl rfl (b1) ?_
          refine x_iinc cd_i103_195 rfl (z := ii (60 + (j + 1))) (ii_add _ 1) rfl ?_
          refine x_n cd_i103_198 rfl rfl ?_
          show am_to cd_t _ _ 103 144 _ _ _ _ _ _
          exact k6 res hh
      have go2 : ∀ res, am_to cd_t cs d 103 169 [some (.ref m), some c', some (.int (ii (60 + ms.length))), some (.int (ii (60 + j)))] [.int (ii M.1), .int (ii (ms.getD j default).1), .ref m] σ top sl res → am_to cd_t cs d 103 144 [some (.ref m), some c', some (.int (ii (60 + ms.length))), some (.int (ii (60 + j)))] [] σ top sl res := by
        intro res hh
        refine go res (x_if_f cd_i103_153 (fun z => absurd (show (1 : Int32) = 0 from z) (by decide)) ?_)
        refine x_n cd_i103_156 rfl rfl ?_
        refine x_n cd_i103_157 rfl rfl ?_
        refine x_getf cd_i103_158 hM.1 rfl rfl ?_
        refine x_n cd_i103_161 rfl rfl ?_
        show am_to cd_t _ _ 103 162 _ _ _ _ _ _
        refine x_iald cd_i103_162 (hM.2 5 (by decide) (by decide)) (show _ < 66 by omega) (by decide) (g1) ?_
        refine x_n cd_i103_163 rfl rfl ?_
        refine x_getf cd_i103_164 hM.1 rfl rfl ?_
        refine x_n cd_i103_167 rfl rfl ?_
        show am_to cd_t _ _ 103 168 _ _ _ _ _ _
        refine x_iald cd_i103_168 (hM.2 5 (by decide) (by decide)) (show _ < 66 by omega) (by decide) (h1) ?_
        exact hh
      by_cases ek : (ms.getD j default).1 = M.1
      · have go3 : ∀ res, am_to cd_t cs d 103 184 [some (.ref m), some c', some (.int (ii (60 + ms.length))), some (.int (ii (60 + j)))] [.int (ii (n27 M.2.2.2.1)), .int (ii (n27 (ms.getD j default).2.2.2.1)), .ref m] σ top sl res → am_to cd_t cs d 103 144 [some (.ref m), some c', some (.int (ii (60 + ms.length))), some (.int (ii (60 + j)))] [] σ top sl res := by
          intro res hh
          refine go2 res (x_icmp_f cd_i103_169 (fun z => z (by rw [ek])) ?_)
          refine x_n cd_i103_172 rfl rfl ?_
          refine x_getf cd_i103_173 hM.1 rfl rfl ?_
          refine x_n cd_i103_176 rfl rfl ?_
          show am_to cd_t _ _ 103 177 _ _ _ _ _ _
          refine x_iald cd_i103_177 (hM.2 8 (by decide) (by decide)) (show _ < 66 by omega) (by decide) (g4) ?_
          refine x_n cd_i103_178 rfl rfl ?_
          refine x_getf cd_i103_179 hM.1 rfl rfl ?_
          refine x_n cd_i103_182 rfl rfl ?_
          show am_to cd_t _ _ 103 183 _ _ _ _ _ _
          refine x_iald cd_i103_183 (hM.2 8 (by decide) (by decide)) (show _ < 66 by omega) (by decide) (h4) ?_
          exact hh
        by_cases ew : (ms.getD j default).2.2.2.1 = M.2.2.2.1
        · refine main false ⟨(fun h => by cases h), fun h => ?_⟩ (fun res hh => go3 res ?_)
          · unfold isNm at h
            rw [beq_iff_eq.mpr ek, beq_iff_eq.mpr ew] at h
            cases h
          · refine x_icmp_t cd_i103_184 (by rw [ew]; exact rfl) ?_
            refine x_ic cd_i103_191 (z := ii 0) rfl ?_
            show am_to cd_t _ _ 103 192 _ _ _ _ _ _
            exact hh
        · refine main true ⟨fun _ => ?_, fun _ => rfl⟩ (fun res hh => go3 res ?_)
          · unfold isNm
            rw [beq_eq_false_iff_ne.mpr ew, Bool.and_false]
          · refine x_icmp_f cd_i103_184 (fun z => ew ((n27_eq hn.2.1 hm.2.1).mp z)) ?_
            refine x_ic cd_i103_187 (z := ii 1) rfl ?_
            refine x_n cd_i103_188 rfl rfl ?_
            show am_to cd_t _ _ 103 192 _ _ _ _ _ _
            exact hh
      · refine main true ⟨fun _ => ?_, fun _ => rfl⟩ (fun res hh => go2 res ?_)
        · unfold isNm
          rw [beq_eq_false_iff_ne.mpr ek, Bool.false_and]
        · refine x_icmp_t cd_i103_169 (fun z => ek ((ii_eq (by omega) (by omega)).mp z)) ?_
          refine x_ic cd_i103_187 (z := ii 1) rfl ?_
          refine x_n cd_i103_188 rfl rfl ?_
          show am_to cd_t _ _ 103 192 _ _ _ _ _ _
          exact hh
/-- where no more may be read -/
theorem m_decl_bad {σ : am_H} {i : Nat → Int32} {a : Nat → Nat → Int32} {v1 v2 v3 : Option Value} {k : Nat} (hd : 0 < d) (hM : mo σ m i a) (hG : i 4 = b2i false) (hk : i 38 = ii k) :
    ∃ (σ' : am_H) (i' : Nat → Int32), mo σ' m i' a ∧ i' 4 = b2i false ∧ (∀ q, q ≠ 4 → q ≠ 38 → i' q = i q) ∧ (∀ x, x < m ∨ m + 25 ≤ x → σ' x = σ x) ∧ ∀ res, am_to cd_t cs d 103 242 [some (.ref m), v1, v2, v3] [] σ' top sl res → am_to cd_t cs d 103 201 [some (.ref m), v1, v2, v3] [] σ top sl res := by
  obtain ⟨s1, b1, b2, b3⟩ := m_must (cs := cs) (d := d - 1) (top := top) (sl := sl) (s := true) (g := false) hM hG
  have h2 := b2.put (upd (upd i 4 (b2i (false && true))) 38 (ii (k + 1)))
  refine ⟨_, _, h2, rfl, fun q h4 h38 => by rw [upd_ne h38, upd_ne h4], fun x hx => by rw [am_up_ne _ _ (by omega), b3 x hx], fun res hh => ?_⟩
  refine x_n cd_i103_201 rfl rfl ?_
  refine x_n cd_i103_202 rfl rfl ?_
  show am_to cd_t _ _ 103 203 _ _ _ _ _ _
  refine x_getf cd_i103_203 hM.1 (congrArg (fun z => some (Value.int z)) (hG)) rfl ?_
  refine x_if_t cd_i103_206 rfl ?_
  refine x_ic cd_i103_221 (z := ii 1) rfl ?_
  refine x_n cd_i103_222 rfl rfl ?_
  show am_to cd_t _ _ 103 226 _ _ _ _ _ _
  refine x_callv (as' := [.int (b2i true)]) (r := none) cd_i103_226 hM.1 (by omega) rfl rfl rfl rfl rfl rfl (b1) ?_
  refine x_n cd_i103_229 rfl rfl ?_
  refine x_n cd_i103_230 rfl rfl ?_
  show am_to cd_t _ _ 103 231 _ _ _ _ _ _
  refine x_getf cd_i103_231 b2.1 (congrArg (fun z => some (Value.int z)) (hk)) rfl ?_
  refine x_ic cd_i103_234 (z := ii 1) rfl ?_
  refine x_iadd cd_i103_235 (ii_add _ _) ?_
  show am_to cd_t _ _ 103 236 _ _ _ _ _ _
  refine x_putf cd_i103_236 (fs' := mo_f m (upd (upd i 4 (b2i (false && true))) 38 (ii (k + 1)))) b2.1 rfl rfl rfl ?_
  refine x_n cd_i103_239 rfl rfl ?_
  refine x_n cd_i103_73 rfl rfl ?_
  show am_to cd_t _ _ 103 74 _ _ _ _ _ _
  refine x_getf cd_i103_74 h2.1 (congrArg (fun z => some (Value.int z)) (rfl)) rfl ?_
  exact x_if_t cd_i103_77 rfl hh
end RD
