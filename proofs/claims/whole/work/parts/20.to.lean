/-- more fuel, the same end -/
theorem am_run_more {t : am_T} {cs : Nat → Value} : ∀ (n d y pc : Nat) (lv : am_V) (st : List Value) (σ : am_H) (top sl : Nat) (res : am_R), am_run t cs n d y pc lv st σ top sl = some res → ∀ k, am_run t cs (n + k) d y pc lv st σ top sl = some res
  | 0, d, y, pc, lv, st, σ, top, sl, res, h, k => absurd (show (none : Option am_R) = some res from h) (fun z => by cases z)
  | n + 1, d, y, pc, lv, st, σ, top, sl, res, h, k => by
    rw [show n + 1 + k = (n + k) + 1 by omega]
    unfold am_run at h ⊢
    cases hI : t.1 y pc with
    | none => rw [hI] at h; cases h
    | some x =>
      obtain ⟨i, u, v⟩ := x
      rw [hI] at h
      dsimp only at h ⊢
      split at h
      · next hk =>
        try rw [hk]
        try dsimp only
        split at h
        · cases h
        · next pc' lv' st' σ' top' sl' hs =>
          try rw [hs]
          exact am_run_more n _ _ _ _ _ _ _ _ _ h k
      · next hk =>
        try rw [hk]
        try dsimp only
        split at h
        · cases h
        · next as rest hc =>
          try rw [hc]
          try dsimp only
          split at h
          · next hsum =>
            try rw [if_pos hsum]
            split at h
            · next hu =>
              try rw [if_pos hu]
              split at h
              · cases h
              · next r σ1 hb =>
                try rw [hb]
                exact am_run_more n _ _ _ _ _ _ _ _ _ h k
            · next hu =>
              try rw [if_neg hu]
              split at h
              · next hl =>
                try rw [if_pos hl]
                split at h
                · cases h
                · next hr =>
                  rw [am_run_more n _ _ _ _ _ _ _ _ _ hr k]
                  exact am_run_more n _ _ _ _ _ _ _ _ _ h k
                · next hr =>
                  rw [am_run_more n _ _ _ _ _ _ _ _ _ hr k]
                  try dsimp only
                  split at h
                  · next hh =>
                    try rw [hh]
                    exact am_run_more n _ _ _ _ _ _ _ _ _ h k
                  · cases h
              · cases h
          · cases h
      · next hk =>
        try rw [hk]
        exact h
      · exact h
/-- the run from here ends so -/
def am_to (t : am_T) (cs : Nat → Value) (d y pc : Nat) (lv : am_V) (st : List Value) (σ : am_H) (top sl : Nat) (res : am_R) : Prop := ∃ n, am_run t cs n d y pc lv st σ top sl = some res
section AMTO
variable {t : am_T} {cs : Nat → Value} {d y pc : Nat} {lv : am_V} {st : List Value} {σ : am_H} {top sl : Nat} {res : am_R} {i : Instr} {u v : Nat}
theorem am_to_n {pc' : Nat} {lv' : am_V} {st' : List Value} {σ' : am_H} {top' sl' : Nat} (hI : t.1 y pc = some (i, u, v)) (hk : am_kind i u = 0) (hs : am_step cs t.2.2.2.1 t.2.2.2.2.1 t.2.2.2.2.2.1 t.2.2.2.2.2.2.1 d pc lv st σ top sl i u v = some (pc', lv', st', σ', top', sl')) (h : am_to t cs d y pc' lv' st' σ' top' sl' res) : am_to t cs d y pc lv st σ top sl res := by
  obtain ⟨n, h⟩ := h
  refine ⟨n + 1, ?_⟩
  unfold am_run
  rw [hI]
  try dsimp only
  rw [hk]
  try dsimp only
  rw [hs]
  exact h
theorem am_to_end {r : Option Value ⊕ Nat} (hI : t.1 y pc = some (i, u, v)) (hk : am_kind i u = 2) (he : am_end (t.2.2.1 y) st i = some r) : am_to t cs d y pc lv st σ top sl (r, σ, top, sl) := by
  refine ⟨1, ?_⟩
  unfold am_run
  rw [hI]
  try dsimp only
  rw [hk]
  try dsimp only
  rw [he]
  rfl
theorem am_to_call {as rest : List Value} {r : Option Value} {σ1 : am_H} {top1 sl1 : Nat} (hI : t.1 y pc = some (i, u, v)) (hk : am_kind i u = 1) (hc : am_call t.2.2.2.2.2.2.2.1 d st σ i u v = some (as, rest)) (hsum : (rest.map fun w => w.category).sum ≤ 8) (hu : ¬ 1000 < u) (hl : as.length ≤ t.2.1 u ∧ as.all am_c1 = true)
    (h1 : am_to t cs (d - 1) u 0 (am_ent (t.2.1 u) as) [] σ top sl (.inl r, σ1, top1, sl1)) (h2 : am_to t cs d y (pc + 3) lv (r.toList ++ rest) σ1 top1 sl1 res) : am_to t cs d y pc lv st σ top sl res := by
  obtain ⟨n1, h1⟩ := h1
  obtain ⟨n2, h2⟩ := h2
  refine ⟨(n1 + n2) + 1, ?_⟩
  unfold am_run
  rw [hI]
  try dsimp only
  rw [hk]
  try dsimp only
  rw [hc]
  try dsimp only
  rw [if_pos hsum, if_neg hu, if_pos hl, am_run_more _ _ _ _ _ _ _ _ _ _ h1 n2]
  try dsimp only
  rw [Nat.add_comm]
  exact am_run_more _ _ _ _ _ _ _ _ _ _ h2 n1
theorem am_to_bi {as rest : List Value} {r : Option Value} {σ1 : am_H} (hI : t.1 y pc = some (i, u, v)) (hk : am_kind i u = 1) (hc : am_call t.2.2.2.2.2.2.2.1 d st σ i u v = some (as, rest)) (hsum : (rest.map fun w => w.category).sum ≤ 8) (hu : 1000 < u)
    (h1 : am_bi u as σ = some (r, σ1)) (h2 : am_to t cs d y (pc + 3) lv (r.toList ++ rest) σ1 top sl res) : am_to t cs d y pc lv st σ top sl res := by
  obtain ⟨n2, h2⟩ := h2
  refine ⟨n2 + 1, ?_⟩
  unfold am_run
  rw [hI]
  try dsimp only
  rw [hk]
  try dsimp only
  rw [hc]
  try dsimp only
  rw [if_pos hsum, if_pos hu, h1]
  exact h2
theorem am_to_throw (hI : t.1 y pc = some (i, u, v)) (hk : am_kind i u = 3) (hd : 6 ≤ d) (hs : (st.map fun w => w.category).sum ≤ 8) : am_to t cs d y pc lv st σ top sl (.inr top, am_up σ top (.inr (.inl (u, []))), top + 1, sl + t.2.2.2.2.2.1 u) := by
  refine ⟨1, ?_⟩
  unfold am_run
  rw [hI]
  try dsimp only
  rw [hk]
  exact if_pos ⟨hd, hs⟩
theorem am_to_catch {as rest : List Value} {a h : Nat} {σ1 : am_H} {top1 sl1 : Nat} (hI : t.1 y pc = some (i, u, v)) (hk : am_kind i u = 1) (hc : am_call t.2.2.2.2.2.2.2.1 d st σ i u v = some (as, rest)) (hsum : (rest.map fun w => w.category).sum ≤ 8) (hu : ¬ 1000 < u) (hl : as.length ≤ t.2.1 u ∧ as.all am_c1 = true)
    (h1 : am_to t cs (d - 1) u 0 (am_ent (t.2.1 u) as) [] σ top sl (.inr a, σ1, top1, sl1)) (hh : am_hd t y u pc σ1 a = some h) (h2 : am_to t cs d y h lv [.ref a] σ1 top1 sl1 res) : am_to t cs d y pc lv st σ top sl res := by
  obtain ⟨n1, h1⟩ := h1
  obtain ⟨n2, h2⟩ := h2
  refine ⟨(n1 + n2) + 1, ?_⟩
  unfold am_run
  rw [hI]
  try dsimp only
  rw [hk]
  try dsimp only
  rw [hc]
  try dsimp only
  rw [if_pos hsum, if_neg hu, if_pos hl, am_run_more _ _ _ _ _ _ _ _ _ _ h1 n2]
  try dsimp only
  rw [hh]
  try dsimp only
  rw [Nat.add_comm]
  exact am_run_more _ _ _ _ _ _ _ _ _ _ h2 n1
end AMTO
/-- n instructions that go on, at once -/
def am_go (t : am_T) (cs : Nat → Value) (d y : Nat) : Nat → am_X → Option am_X
  | 0, x => some x
  | n + 1, x => match t.1 y x.1 with
    | none => none
    | some (i, u, v) => match am_kind i u with
      | 0 => match am_step cs t.2.2.2.1 t.2.2.2.2.1 t.2.2.2.2.2.1 t.2.2.2.2.2.2.1 d x.1 x.2.1 x.2.2.1 x.2.2.2.1 x.2.2.2.2.1 x.2.2.2.2.2 i u v with
        | none => none
        | some x' => am_go t cs d y n x'
      | _ => none
theorem am_to_go {t : am_T} {cs : Nat → Value} {d y : Nat} {res : am_R} : ∀ (n : Nat) (x x' : am_X), am_go t cs d y n x = some x' → am_to t cs d y x'.1 x'.2.1 x'.2.2.1 x'.2.2.2.1 x'.2.2.2.2.1 x'.2.2.2.2.2 res → am_to t cs d y x.1 x.2.1 x.2.2.1 x.2.2.2.1 x.2.2.2.2.1 x.2.2.2.2.2 res
  | 0, x, x', h, h2 => by
    obtain rfl := Option.some.inj (show some x = some x' from h)
    exact h2
  | n + 1, x, x', h, h2 => by
    unfold am_go at h
    split at h
    · cases h
    · next i u v hI =>
      split at h
      · next hk =>
        split at h
        · cases h
        · next x1 hs => exact am_to_n hI hk hs (am_to_go n x1 x' h h2)
      · cases h
theorem am_up_self (σ : am_H) (a : Nat) (e : am_C) : am_up σ a e a = some e := if_pos rfl
theorem am_up_ne (σ : am_H) {a q : Nat} (e : am_C) (h : ¬ q = a) : am_up σ a e q = σ q := if_neg h
