/-! names and types: the desk's buffer -/
def nB (B : Nat) (g : Nat → Nat) (l : List Nat) : Nat := l.foldl (fun v c => v * B + g c) 0
theorem nB_snoc (B : Nat) (g : Nat → Nat) (k : List Nat) (c : Nat) : nB B g (k ++ [c]) = nB B g k * B + g c := by
  unfold nB
  rw [List.foldl_append]
  rfl
theorem nB_inj {B : Nat} {g : Nat → Nat} (hB : 0 < B) : ∀ (n : Nat) (l l' : List Nat), l.length ≤ n → (∀ c ∈ l, 1 ≤ g c ∧ g c < B) → (∀ c ∈ l', 1 ≤ g c ∧ g c < B) → (∀ c ∈ l, ∀ c' ∈ l', g c = g c' → c = c') → nB B g l = nB B g l' → l = l' := by
  intro n
  induction n with
  | zero =>
    intro l l' hn h1 h2 h3 he
    obtain rfl := List.length_eq_zero_iff.mp (Nat.le_zero.mp hn)
    rcases List.eq_nil_or_concat l' with rfl | ⟨k, c, rfl⟩
    · rfl
    · rw [List.concat_eq_append] at *
      rw [nB_snoc] at he
      have := (h2 c (by simp)).1
      have h0 : nB B g [] = 0 := rfl
      omega
  | succ n ih =>
    intro l l' hn h1 h2 h3 he
    rcases List.eq_nil_or_concat l with rfl | ⟨k, c, rfl⟩
    · rcases List.eq_nil_or_concat l' with rfl | ⟨k', c', rfl⟩
      · rfl
      · rw [List.concat_eq_append] at *
        rw [nB_snoc] at he
        have := (h2 c' (by simp)).1
        have h0 : nB B g [] = 0 := rfl
        omega
    · rcases List.eq_nil_or_concat l' with rfl | ⟨k', c', rfl⟩
      · rw [List.concat_eq_append] at *
        rw [nB_snoc] at he
        have := (h1 c (by simp)).1
        have h0 : nB B g [] = 0 := rfl
        omega
      · rw [List.concat_eq_append] at *
        rw [List.concat_eq_append] at *
        rw [nB_snoc, nB_snoc] at he
        have b1 := (h1 c (by simp)).2
        have b2 := (h2 c' (by simp)).2
        have m1 : (nB B g k * B + g c) % B = g c := by rw [Nat.mul_comm, Nat.mul_add_mod, Nat.mod_eq_of_lt b1]
        have m2 : (nB B g k' * B + g c') % B = g c' := by rw [Nat.mul_comm, Nat.mul_add_mod, Nat.mod_eq_of_lt b2]
        have eg : g c = g c' := by rw [← m1, ← m2, he]
        have ek : nB B g k = nB B g k' := by
          have : nB B g k * B = nB B g k' * B := by omega
          exact Nat.eq_of_mul_eq_mul_right hB this
        rw [List.length_append] at hn
        have hn : k.length + 1 ≤ n + 1 := hn
        rw [h3 c (by simp) c' (by simp) eg, ih k k' (by omega) (fun x hx => h1 x (by simp [hx])) (fun x hx => h2 x (by simp [hx])) (fun x hx y hy => h3 x (by simp [hx]) y (by simp [hy])) ek]
theorem wl_low {txt : List Nat} {p : Nat} : ∀ c ∈ wl txt p, 97 ≤ c ∧ c ≤ 122 := by
  intro c hc
  have h := List.all_takeWhile (l := txt.drop p) (p := low)
  have h2 := List.all_eq_true.mp h c hc
  unfold low at h2
  simpa using h2
theorem n256_inj {l l' : List Nat} (h : ∀ c ∈ l, 97 ≤ c ∧ c ≤ 122) (h' : ∀ c ∈ l', 97 ≤ c ∧ c ≤ 122) (e : n256 l = n256 l') : l = l' :=
  nB_inj (B := 256) (g := fun c => c) (by decide) l.length l l' (Nat.le_refl _) (fun c hc => by have := h c hc; omega) (fun c hc => by have := h' c hc; omega) (fun c _ c' _ e => e) e
theorem n27_inj {l l' : List Nat} (h : ∀ c ∈ l, 97 ≤ c ∧ c ≤ 122) (h' : ∀ c ∈ l', 97 ≤ c ∧ c ≤ 122) (e : n27 l = n27 l') : l = l' :=
  nB_inj (B := 27) (g := fun c => c - 96) (by decide) l.length l l' (Nat.le_refl _) (fun c hc => by have := h c hc; omega) (fun c hc => by have := h' c hc; omega) (fun c hc c' hc' e => by have := h c hc; have := h' c' hc'; omega) e
theorem n256_small {l : List Nat} (h : ∀ c ∈ l, 97 ≤ c ∧ c ≤ 122) (hl : l.length ≤ 4) : n256 l < 2147483648 := by
  cases l with
  | nil => decide
  | cons c r =>
    have h1 := n256_lt r c (fun x hx => by have := h x (List.mem_cons_of_mem _ hx); omega)
    have h2 := h c List.mem_cons_self
    have h3 : r.length ≤ 3 := by
      rw [List.length_cons] at hl
      omega
    have h4 : 256 ^ r.length ≤ 256 ^ 3 := Nat.pow_le_pow_right (by decide) h3
    have h5 : (c + 1) * 256 ^ r.length ≤ 123 * 256 ^ 3 := Nat.mul_le_mul (by omega) h4
    have e : n256 (c :: r) = r.foldl (fun v c => v * 256 + c) c := by
      show r.foldl (fun v c => v * 256 + c) (0 * 256 + c) = _
      rw [Nat.zero_mul, Nat.zero_add]
    rw [e]
    have h6 : 123 * 256 ^ 3 < 2147483648 := by decide
    omega
theorem wv_small (txt : List Nat) (p : Nat) : wv txt p < 2147483648 := by
  unfold wv
  split
  · next h => exact n256_small wl_low h
  · decide
/-- the number of a word tells it -/
theorem wv_iff {txt : List Nat} {p : Nat} {w : List Nat} (hw : ∀ c ∈ w, 97 ≤ c ∧ c ≤ 122) (h1 : 1 ≤ w.length) (h4 : w.length ≤ 4) : wv txt p = n256 w ↔ wl txt p = w := by
  constructor
  · intro h
    unfold wv at h
    split at h
    · exact n256_inj wl_low hw h
    · have : ([] : List Nat) = w := n256_inj (fun c hc => by cases hc) hw h
      rw [← this] at h1
      exact absurd h1 (by decide)
  · intro h
    unfold wv
    rw [h, if_pos h4]
section NX
variable {cs : Nat → Value} {d b top sl : Nat} {σ : am_H} {txt : List Nat} {p : Nat}
theorem x_lsw {y pc u k q : Nat} {lv : am_V} {st : List Value} {res : am_R} {df off : Int} {ps : Array (Int × Int)} {x : Int32} (hI : cd_I y pc = some (.lookupswitch df ps, u, k)) (hs : (ps.toList.zip (ps.toList.drop 1)).all (fun (a, next) => a.1 < next.1) = true) (ho : Op.lookupswitch.offset ps.toList df x.toInt = off) (hq : (pc : Int) + off = (q : Int)) (h : am_to cd_t cs d y q lv st σ top sl res) : am_to cd_t cs d y pc lv (.int x :: st) σ top sl res := by
  refine x_n hI rfl ?_ h
  dsimp only [am_step, am_i1]
  rw [ho, hq, if_pos ⟨hs, by omega⟩]
  rfl
theorem x_takeName (hd : 0 < d) (hT : ∀ c ∈ txt, cok c) (h : X_buf σ b txt p) (hp : p ≤ txt.length) : ∃ σ', am_to cd_t cs d 54 0 (am_ent 2 [.ref (b + 1)]) [] σ top sl (.inl (some (.int (ii (n256 ((tkN txt p).getD []))))), σ', top, sl) ∧ X_buf σ' b txt (p + (wl txt p).length) ∧ ∀ x, x ≠ b + 1 → σ' x = σ x := by
  obtain ⟨σ', k1, k2, k3⟩ := x_takeWord (cs := cs) (d := d - 1) (top := top) (sl := sl) hT h hp
  refine ⟨σ', ?_, k2, k3⟩
  have hsm := wv_small txt p
  refine x_n cd_i54_0 rfl rfl ?_
  show am_to cd_t _ _ 54 1 _ _ _ _ _ _
  refine x_callv (as' := []) cd_i54_1 h.1 hd rfl rfl rfl rfl rfl rfl k1 ?_
  refine x_n cd_i54_4 rfl rfl ?_
  try dsimp only [List.set]
  refine x_n cd_i54_5 rfl rfl ?_
  show am_to cd_t _ _ 54 6 _ _ _ _ _ _
  have i1 := wv_iff (txt := txt) (p := p) (w := [105, 110, 116]) (by decide) (by decide) (by decide)
  have i2 := wv_iff (txt := txt) (p := p) (w := [110, 101, 119]) (by decide) (by decide) (by decide)
  have i3 := wv_iff (txt := txt) (p := p) (w := [98, 111, 111, 108]) (by decide) (by decide) (by decide)
  have i4 := wv_iff (txt := txt) (p := p) (w := [108, 111, 110, 103]) (by decide) (by decide) (by decide)
  rw [show n256 [105, 110, 116] = 6909556 by decide] at i1
  rw [show n256 [110, 101, 119] = 7234935 by decide] at i2
  rw [show n256 [98, 111, 111, 108] = 1651470188 by decide] at i3
  rw [show n256 [108, 111, 110, 103] = 1819242087 by decide] at i4
  by_cases hr : isRes (wl txt p) = true
  · have hN : tkN txt p = none := if_neg (fun z => by rw [z.2.2] at hr; cases hr)
    rw [hN]
    have hv : wv txt p = 6909556 ∨ wv txt p = 7234935 ∨ wv txt p = 1651470188 ∨ wv txt p = 1819242087 := by
      unfold isRes at hr
      simp only [Bool.or_eq_true, beq_iff_eq] at hr
      rcases hr with ((e | e) | e) | e
      · exact Or.inr (Or.inl (i2.mpr e))
      · exact Or.inl (i1.mpr e)
      · exact Or.inr (Or.inr (Or.inr (i4.mpr e)))
      · exact Or.inr (Or.inr (Or.inl (i3.mpr e)))
    refine x_lsw cd_i54_6 (off := 42) (q := 48) (by decide) ?_ rfl ?_
    · rw [ii_toInt hsm]
      rcases hv with e | e | e | e <;> rw [e] <;> decide
    · refine x_ic cd_i54_48 (z := ii 0) rfl ?_
      show am_to cd_t _ _ 54 49 _ _ _ _ _ _
      exact x_end cd_i54_49 rfl rfl rfl
  · have hr2 : isRes (wl txt p) = false := by simpa using hr
    have n1 : ¬ wl txt p = [105, 110, 116] := fun e => by rw [e] at hr2; exact absurd hr2 (by decide)
    have n2 : ¬ wl txt p = [110, 101, 119] := fun e => by rw [e] at hr2; exact absurd hr2 (by decide)
    have n3 : ¬ wl txt p = [98, 111, 111, 108] := fun e => by rw [e] at hr2; exact absurd hr2 (by decide)
    have n4 : ¬ wl txt p = [108, 111, 110, 103] := fun e => by rw [e] at hr2; exact absurd hr2 (by decide)
    have m1 := mt i1.mp n1
    have m2 := mt i2.mp n2
    have m3 := mt i3.mp n3
    have m4 := mt i4.mp n4
    have hN : n256 ((tkN txt p).getD []) = wv txt p := by
      unfold tkN wv
      by_cases hl : (wl txt p).length ≤ 4
      · rw [if_pos hl]
        by_cases h0 : 1 ≤ (wl txt p).length
        · rw [if_pos ⟨h0, hl, hr2⟩]
          rfl
        · rw [if_neg (fun z => h0 z.1)]
          have : wl txt p = [] := List.length_eq_zero_iff.mp (by omega)
          rw [this]
          rfl
      · rw [if_neg hl, if_neg (fun z => hl z.2.1)]
        rfl
    rw [hN]
    refine x_lsw cd_i54_6 (off := 44) (q := 50) (by decide) ?_ rfl ?_
    · rw [ii_toInt hsm]
      show Op.lookupswitch.offset [(6909556, 42), (7234935, 42), (1651470188, 42), (1819242087, 42)] 44 (wv txt p : Int) = 44
      rw [Op.lookupswitch.offset_cons, if_neg (by omega), Op.lookupswitch.offset_cons, if_neg (by omega), Op.lookupswitch.offset_cons, if_neg (by omega), Op.lookupswitch.offset_cons, if_neg (by omega)]
      rfl
    · refine x_n cd_i54_50 rfl rfl ?_
      show am_to cd_t _ _ 54 51 _ _ _ _ _ _
      exact x_end cd_i54_51 rfl rfl rfl
end NX
