/-! what the desk and the reference hold, in one set of words -/
/-- kind, private, static, name, parameters, type -/
abbrev Mem : Type := Nat × Bool × Bool × List Nat × List Nat × Nat
/-- parent, members -/
abbrev Dec : Type := Option Nat × List Mem
def n256 (l : List Nat) : Nat := l.foldl (fun v c => v * 256 + c) 0
def n27 (l : List Nat) : Nat := l.foldl (fun v c => v * 27 + (c - 96)) 0
def memAt (ad : Nat → Nat) (σ : am_H) (lo hi e : Nat) (M : Mem) : Prop := lo ≤ e ∧ e < hi ∧ ∃ (p : Nat) (f : Nat → Int32), lo ≤ p ∧ p < hi ∧ σ e = some (.inr (.inl (7, [.ref (ad M.1), .int (b2i M.2.1), .int (b2i M.2.2.1), .int (ii (n256 M.2.2.2.1)), .ref p, .int (ii M.2.2.2.2.1.length), .int (ii M.2.2.2.2.2)]))) ∧ σ p = some (.inl (.int, 2, .inl f)) ∧ M.2.2.2.2.1.length ≤ 2 ∧ ∀ j, j < M.2.2.2.2.1.length → f j = ii (M.2.2.2.2.1.getD j 0)
def decAt (ad : Nat → Nat) (σ : am_H) (lo hi a c : Nat) (par : Option Nat) (ms : List Mem) (ea : Nat → Nat) : Prop := lo ≤ a ∧ a < hi ∧ ∃ (r : Nat) (h : Nat → Option Nat), lo ≤ r ∧ r < hi ∧ σ a = some (.inr (.inl (4, [.int (ii c), va_rf par, .ref r, .int (ii ms.length)]))) ∧ σ r = some (.inl (.object "ChainDesk$Member", 6, .inr (.inr (.inr (.inr h))))) ∧ ms.length ≤ 6 ∧ ∀ i, i < ms.length → h i = some (ea i) ∧ memAt ad σ lo hi (ea i) (ms.getD i default)
theorem memAt.kept {ad : Nat → Nat} {σ σ' : am_H} {lo hi hi' e : Nat} {M : Mem} (h : memAt ad σ lo hi e M) (hq : ∀ q, lo ≤ q → q < hi → σ' q = σ q) (hh : hi ≤ hi') : memAt ad σ' lo hi' e M := by
  obtain ⟨h1, h2, p, f, h3, h4, h5, h6, h7⟩ := h
  exact ⟨h1, by omega, p, f, h3, by omega, (hq e h1 h2).trans h5, (hq p h3 h4).trans h6, h7⟩
theorem decAt.kept {ad : Nat → Nat} {σ σ' : am_H} {lo hi hi' a c : Nat} {par : Option Nat} {ms : List Mem} {ea : Nat → Nat} (h : decAt ad σ lo hi a c par ms ea) (hq : ∀ q, lo ≤ q → q < hi → σ' q = σ q) (hh : hi ≤ hi') : decAt ad σ' lo hi' a c par ms ea := by
  obtain ⟨h1, h2, r, g, h3, h4, h5, h6, h7, h8⟩ := h
  exact ⟨h1, by omega, r, g, h3, by omega, (hq a h1 h2).trans h5, (hq r h3 h4).trans h6, h7, fun i hi => ⟨(h8 i hi).1, (h8 i hi).2.kept hq hh⟩⟩
/-- a class and those above it -/
def chain (dec : Nat → Option Dec) : Nat → Nat → List Nat
  | 0, _ => []
  | n + 1, c => match dec c with
    | none => [c]
    | some D => match D.1 with
      | none => [c]
      | some p => c :: chain dec n p
def fitM (dec : Nat → Option Dec) (t w : Nat) : Prop := t = w ∨ (t = 0 ∧ w = 1) ∨ (3 ≤ t ∧ 3 ≤ w ∧ w - 3 ∈ chain dec 11 (t - 3))
def X_fit (σ : am_H) (b : Nat) (dec : Nat → Option Dec) : Prop := ∃ F : Nat → Int32, σ (b + 5) = some (.inl (.int, 13, .inl F)) ∧ ∀ t w, t < 13 → w < 13 → ((F t >>> (ii w &&& 31)) &&& ii 1 = ii 1 ↔ fitM dec t w)
/-- the desk's catalog: da a class's declaration, ea its members -/
def X_cat (ad : Nat → Nat) (σ : am_H) (b hi : Nat) (dec : Nat → Option Dec) (pl : Int32) (da : Nat → Nat) (ea : Nat → Nat → Nat) : Prop :=
  σ (b + 3) = some (.inr (.inl (2, [.ref (b + 4), .ref (b + 5), .int pl]))) ∧ (∃ g : Nat → Option Nat, σ (b + 4) = some (.inl (.object "ChainDesk$Declaration", 10, .inr (.inr (.inr (.inr g))))) ∧ ∀ c, c < 10 → g c = (dec c).map (fun _ => da c)) ∧
  (∀ c D, c < 10 → dec c = some D → decAt ad σ (b + 114) hi (da c) c (D.1.map da) D.2 (ea c)) ∧ X_fit σ b dec ∧ (∀ c D c' D' i i', dec c = some D → dec c' = some D' → i < D.2.length → i' < D'.2.length → ea c i = ea c' i' → c = c' ∧ i = i')
theorem X_cat.kept {ad : Nat → Nat} {σ σ' : am_H} {b hi hi' : Nat} {dec : Nat → Option Dec} {pl : Int32} {da : Nat → Nat} {ea : Nat → Nat → Nat} (h : X_cat ad σ b hi dec pl da ea) (h3 : σ' (b + 3) = σ (b + 3)) (h4 : σ' (b + 4) = σ (b + 4)) (h5 : σ' (b + 5) = σ (b + 5)) (hq : ∀ q, b + 114 ≤ q → q < hi → σ' q = σ q) (hh : hi ≤ hi') : X_cat ad σ' b hi' dec pl da ea := by
  obtain ⟨g1, ⟨g, g2, g3⟩, g4, ⟨F, g5, g6⟩, g7⟩ := h
  exact ⟨h3.trans g1, ⟨g, h4.trans g2, g3⟩, fun c D hc hD => (g4 c D hc hD).kept hq hh, ⟨F, h5.trans g5, g6⟩, g7⟩
/-- an expression with its text, type and cost -/
def phr (σ : am_H) (p : Nat) (txt : List Nat) (ty cost : Nat) : Prop := ∃ f : Nat → Int32, σ p = some (.inr (.inl (8, [.ref (p + 1), .int (ii txt.length), .int (ii ty), .int (ii cost)]))) ∧ σ (p + 1) = some (.inl (.char, 25, .inl f)) ∧ txt.length ≤ 25 ∧ ∀ j, j < txt.length → f j = ii (txt.getD j 0)
/-- proposals: text, cost, type -/
def X_pr (σ : am_H) (b : Nat) (pr : List (List Nat × Nat × Nat)) : Prop := (∃ t : Nat, σ (b + 11) = some (.inr (.inl (3, [.ref (b + 3), .ref (b + 6), .ref (b + 12), .ref (b + 13), .ref (b + 14), .ref t, .int (ii pr.length)])))) ∧ pr.length ≤ 10 ∧ ∃ h : Nat → Option Nat, σ (b + 13) = some (.inl (.object "ChainDesk$Phrase", 10, .inr (.inr (.inr (.inr h))))) ∧ ∀ i, i < pr.length → ∃ p, h i = some p ∧ phr σ p (pr.getD i default).1 (pr.getD i default).2.2 (pr.getD i default).2.1
def M_mem (a : Nat → Nat → Int32) (r : Nat) (M : Mem) : Prop := a 5 r = ii M.1 ∧ a 6 r = b2i (M.2.2.1 || M.1 == 2) ∧ a 7 r = b2i M.2.1 ∧ a 8 r = ii (n27 M.2.2.2.1) ∧ a 9 r = ii M.2.2.2.2.2 ∧ a 10 r = ii M.2.2.2.2.1.length ∧ ∀ j, j < M.2.2.2.2.1.length → a 11 (2 * r + j) = ii (M.2.2.2.2.1.getD j 0)
def M_cat (a : Nat → Nat → Int32) (dec : Nat → Option Dec) : Prop := ∀ c, c < 10 → (dec c = none → a 2 c = 0) ∧ ∀ D, dec c = some D → a 2 c = 1 ∧ a 3 c = (match D.1 with | none => -1 | some p => ii p) ∧ a 4 c = ii D.2.length ∧ D.2.length ≤ 6 ∧ ∀ k, k < D.2.length → M_mem a (6 * c + k) (D.2.getD k default)
def M_pr (i : Nat → Int32) (a : Nat → Nat → Int32) (pr : List (List Nat × Nat × Nat)) : Prop := i 27 = ii pr.length ∧ pr.length ≤ 10 ∧ ∀ q, q < pr.length → a 21 q = ii (pr.getD q default).1.length ∧ (pr.getD q default).1.length ≤ 24 ∧ a 19 q = ii (pr.getD q default).2.1 ∧ a 20 q = ii (pr.getD q default).2.2 ∧ ∀ k, k < (pr.getD q default).1.length → a 22 (24 * q + k) = ii ((pr.getD q default).1.getD k 0)
def declM (dec : Nat → Option Dec) (c : Int32) : Option Dec := if 0 ≤ c.toInt ∧ c.toInt < 10 then dec c.toNatClampNeg else none
def membersM (dec : Nat → Option Dec) (c : Int32) : Int32 := match declM dec c with
  | none => -1
  | some D => ii D.2.length
section SX
variable {cs : Nat → Value} {d b m top sl : Nat} {σ : am_H}
theorem x_tsw_d {y pc u k : Nat} {lv : am_V} {st : List Value} {res : am_R} {df lo hi : Int} {offs : Array Int} {x : Int32} {p : Nat} (hI : cd_I y pc = some (.tableswitch df lo hi offs, u, k)) (hx : x.toInt < lo ∨ hi < x.toInt) (hp : (pc : Int) + df = (p : Int)) (h : am_to cd_t cs d y p lv st σ top sl res) : am_to cd_t cs d y pc lv (.int x :: st) σ top sl res := by
  refine x_n hI rfl ?_ h
  dsimp only [am_step, am_i1]
  rw [if_pos hx, hp, if_pos (by omega)]
  rfl
theorem x_tsw_i {y pc u k : Nat} {lv : am_V} {st : List Value} {res : am_R} {df lo hi off : Int} {offs : Array Int} {x : Int32} {p j : Nat} (hI : cd_I y pc = some (.tableswitch df lo hi offs, u, k)) (hx : ¬ (x.toInt < lo ∨ hi < x.toInt)) (hj : (x.toInt - lo).toNat = j) (ho : offs[j]? = some off) (hp : (pc : Int) + off = (p : Int)) (h : am_to cd_t cs d y p lv st σ top sl res) : am_to cd_t cs d y pc lv (.int x :: st) σ top sl res := by
  refine x_n hI rfl ?_ h
  dsimp only [am_step, am_i1]
  rw [if_neg hx, hj, ho]
  dsimp only
  rw [hp, if_pos (by omega)]
  rfl
theorem neg_iff {c : Int32} : c < 0 ↔ c.toInt < 0 := by rw [Int32.lt_iff_toInt_lt, Int32.toInt_zero]
theorem x_declared {ad : Nat → Nat} {hi : Nat} {dec : Nat → Option Dec} {pl : Int32} {da : Nat → Nat} {ea : Nat → Nat → Nat} {c : Int32} (hC : X_cat ad σ b hi dec pl da ea) :
    am_to cd_t cs d 22 0 (am_ent 2 [.ref (b + 3), .int c]) [] σ top sl (.inl (some (va_rf ((declM dec c).map fun _ => da c.toNatClampNeg))), σ, top, sl) := by
  obtain ⟨g1, ⟨g, g2, g3⟩, g4⟩ := hC
  have nul : declM dec c = none → am_to cd_t cs d 22 22 (am_ent 2 [.ref (b + 3), .int c]) [] σ top sl (.inl (some (va_rf ((declM dec c).map fun _ => da c.toNatClampNeg))), σ, top, sl) := by
    intro h
    rw [h]
    refine x_n cd_i22_22 rfl rfl ?_
    show am_to cd_t _ _ 22 23 _ _ _ _ _ _
    exact x_end cd_i22_23 rfl rfl rfl
  refine x_n cd_i22_0 rfl rfl ?_
  show am_to cd_t _ _ 22 1 _ _ _ _ _ _
  refine x_if cd_i22_1 (fun z => ?_) (fun z => ?_)
  · refine nul ?_
    have := neg_iff.mp (show c < 0 from z)
    unfold declM
    rw [if_neg (by omega)]
  · have z1 := mt neg_iff.mpr (show ¬ c < 0 from z)
    refine x_n cd_i22_4 rfl rfl ?_
    refine x_n cd_i22_5 rfl rfl ?_
    refine x_getf cd_i22_6 (by assumption) rfl rfl ?_
    show am_to cd_t _ _ 22 9 _ _ _ _ _ _
    refine x_len cd_i22_9 g2 ?_
    refine x_icmp cd_i22_10 (fun y => ?_) (fun y => ?_)
    · refine nul ?_
      have := (c_le (by decide)).mp (show ii 10 ≤ c from y)
      unfold declM
      rw [if_neg (by omega)]
    · have y1 := mt (c_le (n := c) (k := 10) (by decide)).mpr y
      have e := Int32_nn (n := c) (by omega)
      have hlt : c.toNatClampNeg < 10 := by
        show c.toInt.toNat < 10
        omega
      have hdm : declM dec c = dec c.toNatClampNeg := by
        unfold declM
        rw [if_pos (by omega)]
      refine x_n cd_i22_13 rfl rfl ?_
      refine x_getf cd_i22_14 (by assumption) rfl rfl ?_
      refine x_n cd_i22_17 rfl rfl ?_
      show am_to cd_t _ _ 22 18 _ _ _ _ _ _
      have st : am_to cd_t cs d 22 18 (am_ent 2 [.ref (b + 3), .int c]) [.int (ii c.toNatClampNeg), .ref (b + 4)] σ top sl (.inl (some (va_rf ((declM dec c).map fun _ => da c.toNatClampNeg))), σ, top, sl) := by
        refine x_aaload cd_i22_18 g2 hlt (by decide) ?_
        rw [g3 _ hlt, hdm]
        cases dec c.toNatClampNeg with
        | none =>
          refine x_n cd_i22_19 rfl rfl ?_
          show am_to cd_t _ _ 22 23 _ _ _ _ _ _
          exact x_end cd_i22_23 rfl rfl rfl
        | some D =>
          refine x_n cd_i22_19 rfl rfl ?_
          show am_to cd_t _ _ 22 23 _ _ _ _ _ _
          exact x_end cd_i22_23 rfl rfl rfl
      rw [← e] at st
      exact st
theorem x_members {ad : Nat → Nat} {hi : Nat} {dec : Nat → Option Dec} {pl : Int32} {da : Nat → Nat} {ea : Nat → Nat → Nat} {c : Int32} {v : Value} (hd : 0 < d) (hx : X_o σ b v) (hC : X_cat ad σ b hi dec pl da ea) :
    am_to cd_t cs d 21 0 (am_ent 3 [.ref b, .int c]) [] σ top sl (.inl (some (.int (membersM dec c))), σ, top, sl) := by
  refine x_n cd_i21_0 rfl rfl ?_
  refine x_getf cd_i21_1 (by assumption) rfl rfl ?_
  refine x_n cd_i21_4 rfl rfl ?_
  show am_to cd_t _ _ 21 5 _ _ _ _ _ _
  refine x_callv (as' := [.int c]) cd_i21_5 hC.1 hd rfl rfl rfl rfl rfl rfl (x_declared hC) ?_
  unfold membersM
  cases hD : declM dec c with
  | none =>
    refine x_n cd_i21_8 rfl rfl ?_
    try dsimp only [List.set]
    refine x_n cd_i21_9 rfl rfl ?_
    show am_to cd_t _ _ 21 10 _ _ _ _ _ _
    refine x_nn_f cd_i21_10 ?_
    refine x_ic cd_i21_13 (z := (-1)) rfl ?_
    refine x_n cd_i21_14 rfl rfl ?_
    show am_to cd_t _ _ 21 21 _ _ _ _ _ _
    exact x_end cd_i21_21 rfl rfl rfl
  | some D =>
    unfold declM at hD
    split at hD
    · next hr =>
      have hlt : c.toNatClampNeg < 10 := by
        show c.toInt.toNat < 10
        omega
      obtain ⟨h1, h2, r, h, h3, h4, h5, h6⟩ := hC.2.2.1 _ D hlt hD
      refine x_n cd_i21_8 rfl rfl ?_
      try dsimp only [List.set]
      refine x_n cd_i21_9 rfl rfl ?_
      show am_to cd_t _ _ 21 10 _ _ _ _ _ _
      refine x_nn_t cd_i21_10 ?_
      refine x_n cd_i21_17 rfl rfl ?_
      refine x_getf cd_i21_18 (by assumption) rfl rfl ?_
      show am_to cd_t _ _ 21 21 _ _ _ _ _ _
      exact x_end cd_i21_21 rfl rfl rfl
    · cases hD
theorem m_members {i : Nat → Int32} {a : Nat → Nat → Int32} {dec : Nat → Option Dec} {c : Int32} (hd : 0 < d) (hM : mo σ m i a) (hC : M_cat a dec) :
    am_to cd_t cs d 155 0 (am_ent 2 [.ref m, .int c]) [] σ top sl (.inl (some (.int (membersM dec c))), am_up σ m (.inr (.inl (11, mo_f m (upd i 0 0)))), top, sl) := by
  have hM1 := hM.put (upd i 0 0)
  refine x_n cd_i155_0 rfl rfl ?_
  refine x_ic cd_i155_1 (z := ii 0) rfl ?_
  show am_to cd_t _ _ 155 2 _ _ _ _ _ _
  refine x_putf cd_i155_2 (fs' := mo_f m (upd i 0 0)) hM.1 rfl rfl rfl ?_
  refine x_n cd_i155_5 rfl rfl ?_
  refine x_ic cd_i155_6 (z := ii 0) rfl ?_
  refine x_bi cd_i155_7 (z := ii 9) (by decide) ?_
  show am_to cd_t _ _ 155 9 _ _ _ _ _ _
  refine x_calls (as := [.int c, .int (ii 0), .int (ii 9)]) cd_i155_9 hd rfl rfl rfl rfl rfl rfl m_outside ?_
  have hout : (c < ii 0 ∨ ii 9 < c) ↔ ¬ (0 ≤ c.toInt ∧ c.toInt < 10) := by
    rw [c_lt (by decide), lt_c (by decide)]
    omega
  unfold membersM declM
  by_cases hr : 0 ≤ c.toInt ∧ c.toInt < 10
  · rw [if_neg (fun z => hout.mp z hr), if_pos hr]
    have e := Int32_nn (n := c) (by omega)
    have hlt : c.toNatClampNeg < 10 := by
      show c.toInt.toNat < 10
      omega
    obtain ⟨k1, k2⟩ := hC _ hlt
    refine x_if_f cd_i155_12 (fun z => z rfl) ?_
    refine x_n cd_i155_15 rfl rfl ?_
    show am_to cd_t _ _ 155 16 _ _ _ _ _ _
    refine x_getf cd_i155_16 hM1.1 rfl rfl ?_
    rw [e]
    refine x_n cd_i155_19 rfl rfl ?_
    show am_to cd_t _ _ 155 20 _ _ _ _ _ _
    refine x_baload cd_i155_20 (hM1.2 2 (by decide) (by decide)) (show c.toNatClampNeg < 10 from hlt) (by decide) ?_
    rw [← e]
    cases hD : dec c.toNatClampNeg with
    | none =>
      rw [k1 hD]
      refine x_if_f cd_i155_21 (fun z => z rfl) ?_
      refine x_ic cd_i155_24 (z := (-1)) rfl ?_
      refine x_n cd_i155_25 rfl rfl ?_
      show am_to cd_t _ _ 155 34 _ _ _ _ _ _
      exact x_end cd_i155_34 rfl rfl rfl
    | some D =>
      obtain ⟨q1, q2, q3, q4⟩ := k2 D hD
      rw [q1]
      refine x_if_t cd_i155_21 (fun z => absurd (show (1 : Int32) = 0 from z) (by decide)) ?_
      refine x_n cd_i155_28 rfl rfl ?_
      show am_to cd_t _ _ 155 29 _ _ _ _ _ _
      refine x_getf cd_i155_29 hM1.1 rfl rfl ?_
      rw [e]
      refine x_n cd_i155_32 rfl rfl ?_
      show am_to cd_t _ _ 155 33 _ _ _ _ _ _
      refine x_iaload cd_i155_33 (hM1.2 4 (by decide) (by decide)) (show c.toNatClampNeg < 10 from hlt) (by decide) ?_
      rw [← e, q3]
      exact x_end cd_i155_34 rfl rfl rfl
  · rw [if_pos (hout.mpr hr), if_neg hr]
    refine x_if_t cd_i155_12 (fun z => absurd (show (1 : Int32) = 0 from z) (by decide)) ?_
    refine x_ic cd_i155_24 (z := (-1)) rfl ?_
    refine x_n cd_i155_25 rfl rfl ?_
    show am_to cd_t _ _ 155 34 _ _ _ _ _ _
    exact x_end cd_i155_34 rfl rfl rfl
end SX
