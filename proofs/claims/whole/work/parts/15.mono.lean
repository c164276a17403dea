set_option maxHeartbeats 4000000 in
theorem am_step_mono {cs : Nat → Value} {ft : Nat → Nat → FieldType} {df : Nat → List Value} {ns : Nat → Nat} {nm : Nat → String} {d pc : Nat} {lv : am_V} {st : List Value} {σ : am_H} {top sl : Nat} {i : Instr} {u v : Nat} {x : am_X}
    (h : am_step cs ft df ns nm d pc lv st σ top sl i u v = some x) : top ≤ x.2.2.2.2.1 ∧ sl ≤ x.2.2.2.2.2 := by
  have key : ∀ (pc' : Nat) (lv' : am_V) (st' : List Value) (σ' : am_H), am_n pc' lv' st' σ' top sl = some x → top ≤ x.2.2.2.2.1 ∧ sl ≤ x.2.2.2.2.2 := by
    intro pc' lv' st' σ' h
    obtain rfl := am_n_inv h
    exact ⟨Nat.le_refl _, Nat.le_refl _⟩
  have key2 : ∀ (pc' : Nat) (lv' : am_V) (st' : List Value) (σ' : am_H) (n : Nat), am_n pc' lv' st' σ' (top + 1) (sl + n) = some x → top ≤ x.2.2.2.2.1 ∧ sl ≤ x.2.2.2.2.2 := by
    intro pc' lv' st' σ' n h
    obtain rfl := am_n_inv h
    exact ⟨Nat.le_succ _, Nat.le_add_right _ _⟩
  cases i <;> (dsimp only [am_step, am_i1, am_i2, am_l2, am_a1, am_q1, am_q2, am_v1, am_v2, am_ia, am_iia, am_lia, am_qia, am_va] at h; (repeat' (split at h)) <;> first | exact key _ _ _ _ h | exact key2 _ _ _ _ _ h | cases h)
theorem am_run_mono {t : am_T} {cs : Nat → Value} : ∀ (n d y pc : Nat) (lv : am_V) (st : List Value) (σ : am_H) (top sl : Nat) (res : am_R), am_run t cs n d y pc lv st σ top sl = some res → top ≤ res.2.2.1 ∧ sl ≤ res.2.2.2
  | 0, d, y, pc, lv, st, σ, top, sl, res, h => by cases h
  | n + 1, d, y, pc, lv, st, σ, top, sl, res, h => by
    unfold am_run at h
    split at h
    · cases h
    · next i u v hI =>
      split at h
      · split at h
        · cases h
        · next pc' lv' st' σ' top' sl' hs =>
          have h1 := am_step_mono hs
          have h2 := am_run_mono n _ _ _ _ _ _ _ _ _ h
          dsimp only at h1
          exact ⟨Nat.le_trans h1.1 h2.1, Nat.le_trans h1.2 h2.2⟩
      · split at h
        · cases h
        · split at h
          · split at h
            · split at h
              · cases h
              · exact am_run_mono n _ _ _ _ _ _ _ _ _ h
            · split at h
              · split at h
                · cases h
                · next hs =>
                  have h1 := am_run_mono n _ _ _ _ _ _ _ _ _ hs
                  have h2 := am_run_mono n _ _ _ _ _ _ _ _ _ h
                  dsimp only at h1
                  exact ⟨Nat.le_trans h1.1 h2.1, Nat.le_trans h1.2 h2.2⟩
                · next hs =>
                  split at h
                  · have h1 := am_run_mono n _ _ _ _ _ _ _ _ _ hs
                    have h2 := am_run_mono n _ _ _ _ _ _ _ _ _ h
                    dsimp only at h1
                    exact ⟨Nat.le_trans h1.1 h2.1, Nat.le_trans h1.2 h2.2⟩
                  · cases h
              · cases h
          · cases h
      · split at h
        · cases h
          exact ⟨Nat.le_succ _, Nat.le_add_right _ _⟩
        · cases h
      · split at h
        · cases h
        · cases h
          exact ⟨Nat.le_refl _, Nat.le_refl _⟩
