theorem am_set_i (cA : ClassId) (n : Nat) (f : Nat → Int32) (k : Nat) (x : Int32) : (vp_cell cA (n, .inl f)).setSlot k (.int x) = vp_cell cA (n, .inl (upd f k x)) := by
  rw [vp_cell_i, vp_cell_i, arrV_store]
  congr 1
  funext q
  by_cases hq : q = k
  · subst hq
    simp [updV, upd]
  · simp [updV, upd, hq]
theorem am_set_l (cA : ClassId) (n : Nat) (f : Nat → Int64) (k : Nat) (x : Int64) : (vp_cell cA (n, .inr (.inl f))).setSlot k (.long x) = vp_cell cA (n, .inr (.inl (vp_updL f k x))) := by
  rw [vp_cell_l, vp_cell_l, arrV_store]
  congr 1
  funext q
  by_cases hq : q = k
  · subst hq
    simp [updV, vp_updL]
  · simp [updV, vp_updL, hq]
theorem am_set_q (cA : ClassId) (n : Nat) (f : Nat → Option Nat) (k : Nat) (x : Option Nat) : (vp_cell cA (n, .inr (.inr (.inr (.inr f))))).setSlot k (va_rf x) = vp_cell cA (n, .inr (.inr (.inr (.inr (va_up f k x))))) := by
  rw [vp_cell_q, vp_cell_q, arrV_store]
  congr 1
  funext q
  by_cases hq : q = k
  · subst hq
    simp [updV, va_up]
  · simp [updV, va_up, hq]
theorem am_fitU {ty : FieldType} {n : Nat} {f : Nat → Int32} {k : Nat} {x : Int32} (h : am_fitA ty (n, .inl f)) (hx : fits ty (.int x) = true) : am_fitA ty (n, .inl (upd f k x)) := by
  intro j
  show fits ty (.int (if j = k then x else f j)) = true
  by_cases hj : j = k
  · rw [if_pos hj]; exact hx
  · rw [if_neg hj]; exact h j
theorem am_narC (x : Int32) : fits .char (.int (vp_nar .char x)) = true := by
  have e : vp_nar .char x = nI (x.toBitVec.toNat % 65536) := by
    rw [vp_nar_char]
    apply Int32.toBitVec_inj.mp
    apply BitVec.eq_of_toNat_eq
    rw [pk_tn (by omega)]
    show x.toUInt32.toUInt16.toUInt32.toNat = _
    rw [UInt16.toNat_toUInt32, UInt32.toNat_toUInt16]
    rfl
  rw [e]
  exact (pk_charN (Nat.mod_lt _ (by decide))).2
theorem am_narZ (x : Int32) : fits .boolean (.int (vp_nar .boolean x)) = true := by
  have e : vp_nar .boolean x = x &&& 1 := rfl
  have h : x &&& 1 = nI (x.toBitVec.toNat % 2 ^ 1) := pk_and x 1 (by decide)
  have h2 : x.toBitVec.toNat % 2 ^ 1 < 2 := Nat.mod_lt _ (by decide)
  rw [e, h]
  generalize x.toBitVec.toNat % 2 ^ 1 = j at h2
  rcases (show j = 0 ∨ j = 1 by omega) with rfl | rfl <;> decide
theorem am_kapp {D : va_G} {cl : List vw_C} {tys : List (ClassId × FieldType)} {U : State} {cA : ClassId} {ty : FieldType} (hK : va_K D cl tys U) (h1 : ArrOfT U cA ty) (h2 : va_RA U cA ty) : va_K D cl (tys ++ [(cA, ty)]) U := by
  refine ⟨hK.1, fun k x hx => ?_⟩
  by_cases hl : k < tys.length
  · rw [List.getElem?_append_left hl] at hx
    exact hK.2 k x hx
  · rw [List.getElem?_append_right (by omega)] at hx
    have hz : k - tys.length < 1 := (List.getElem?_eq_some_iff.mp hx).1
    rw [show k - tys.length = 0 by omega] at hx
    cases hx
    exact ⟨h1, h2⟩
section AMA
variable {p : Program} {l : Launch} {e : Env} {R : Room} {s : State} {m : MethodId} {args : Array Value} {below : List Frame} {meth : Method} {c : Code} {Q : State → Prop}
variable {cc : ByteArray} {D : va_G} {cl : List vw_C} {b0 nL c0 s0 : Nat} {pc top sl : Nat} {lv : am_V} {st rest : List Value} {σ : am_H}
theorem am_w_alen (hx : p.tables.exec = Jvm.exec) (hb : c.code = cc) (hd : decode cc pc = .ok (.arraylength, 1)) {a : Nat} {ty : FieldType} {ar : vp_A} (ha : σ a = some (.inl (ty, ar))) (k : am_W p l e R s m args below meth c Q D cl b0 nL c0 s0 (pc + 1) lv (.int (Int32.ofNat ar.1) :: rest) σ top sl) : am_W p l e R s m args below meth c Q D cl b0 nL c0 s0 pc lv (.ref a :: rest) σ top sl := by
  intro ls H locs cells slots h
  obtain ⟨hsz, hbt, tys, hK, hcl⟩ := h.2.1
  obtain ⟨hlt, hb0, hft, cA, hin, hH⟩ := hcl a _ ha
  obtain ⟨t0, ht0⟩ := List.getElem?_of_mem hin
  have hP : va_P D cl [(a, .inl (cA, ar))] H := am_P1 hH
  exact va_alen hx hb hK hP 0 t0 rfl ht0 rfl hd (k ls H locs cells slots h)
theorem am_w_slen (hx : p.tables.exec = Jvm.exec) (hb : c.code = cc) (hd : decode cc pc = .ok (.arraylength, 1)) {a n : Nat} {f : Nat → Int32} (ha : σ a = some (.inr (.inr (0, n, f)))) (k : am_W p l e R s m args below meth c Q D cl b0 nL c0 s0 (pc + 1) lv (.int (Int32.ofNat n) :: rest) σ top sl) : am_W p l e R s m args below meth c Q D cl b0 nL c0 s0 pc lv (.ref a :: rest) σ top sl := by
  intro ls H locs cells slots h
  obtain ⟨hsz, hbt, tys, hK, hcl⟩ := h.2.1
  obtain ⟨hlt, hb0, hX⟩ := hcl a _ ha
  exact va_slen (A := fun q => b0 ≤ q) (H0 := H) hx hb hX (by rw [hsz]; exact hlt) (Nat.not_le.mpr hb0) ⟨Nat.le_refl _, fun _ _ _ => rfl, h.2.2.1.2.2⟩ hd (k ls H locs cells slots h)
theorem am_w_sald (hx : p.tables.exec = Jvm.exec) (hb : c.code = cc) (hd : decode cc pc = .ok (.iaload, 1)) {a n : Nat} {f : Nat → Int32} {i : Int32} (ha : σ a = some (.inr (.inr (0, n, f)))) (hi : ¬ (i < 0 ∨ n ≤ i.toNatClampNeg)) (k : am_W p l e R s m args below meth c Q D cl b0 nL c0 s0 (pc + 1) lv (.int (f i.toNatClampNeg) :: rest) σ top sl) : am_W p l e R s m args below meth c Q D cl b0 nL c0 s0 pc lv (.int i :: .ref a :: rest) σ top sl := by
  intro ls H locs cells slots h
  obtain ⟨hsz, hbt, tys, hK, hcl⟩ := h.2.1
  obtain ⟨hlt, hb0, hX⟩ := hcl a _ ha
  exact va_sld (A := fun q => b0 ≤ q) (H0 := H) hx hb hX (by rw [hsz]; exact hlt) (Nat.not_le.mpr hb0) ⟨Nat.le_refl _, fun _ _ _ => rfl, h.2.2.1.2.2⟩ hi hd (k ls H locs cells slots h)
theorem am_w_iald (hx : p.tables.exec = Jvm.exec) (hb : c.code = cc) (hd : decode cc pc = .ok (.iaload, 1)) {a n : Nat} {f : Nat → Int32} {i : Int32} (ha : σ a = some (.inl (.int, n, .inl f))) (hi : ¬ (i < 0 ∨ n ≤ i.toNatClampNeg)) (k : am_W p l e R s m args below meth c Q D cl b0 nL c0 s0 (pc + 1) lv (.int (f i.toNatClampNeg) :: rest) σ top sl) : am_W p l e R s m args below meth c Q D cl b0 nL c0 s0 pc lv (.int i :: .ref a :: rest) σ top sl := by
  intro ls H locs cells slots h
  obtain ⟨hsz, hbt, tys, hK, hcl⟩ := h.2.1
  obtain ⟨hlt, hb0, hft, cA, hin, hH⟩ := hcl a _ ha
  obtain ⟨t0, ht0⟩ := List.getElem?_of_mem hin
  have hP : va_P D cl [(a, .inl (cA, n, .inl f))] H := am_P1 hH
  exact va_iald hx hb hK hP 0 t0 rfl ht0 hi hd (k ls H locs cells slots h)
theorem am_w_cald (hx : p.tables.exec = Jvm.exec) (hb : c.code = cc) (hd : decode cc pc = .ok (.caload, 1)) {a n : Nat} {f : Nat → Int32} {i : Int32} (ha : σ a = some (.inl (.char, n, .inl f))) (hi : ¬ (i < 0 ∨ n ≤ i.toNatClampNeg)) (k : am_W p l e R s m args below meth c Q D cl b0 nL c0 s0 (pc + 1) lv (.int (f i.toNatClampNeg) :: rest) σ top sl) : am_W p l e R s m args below meth c Q D cl b0 nL c0 s0 pc lv (.int i :: .ref a :: rest) σ top sl := by
  intro ls H locs cells slots h
  obtain ⟨hsz, hbt, tys, hK, hcl⟩ := h.2.1
  obtain ⟨hlt, hb0, hft, cA, hin, hH⟩ := hcl a _ ha
  obtain ⟨t0, ht0⟩ := List.getElem?_of_mem hin
  have hP : va_P D cl [(a, .inl (cA, n, .inl f))] H := am_P1 hH
  exact va_cald hx hb hK hP 0 t0 rfl ht0 hi hd (k ls H locs cells slots h)
theorem am_w_zald (hx : p.tables.exec = Jvm.exec) (hb : c.code = cc) (hd : decode cc pc = .ok (.baload, 1)) {a n : Nat} {f : Nat → Int32} {i : Int32} (ha : σ a = some (.inl (.boolean, n, .inl f))) (hi : ¬ (i < 0 ∨ n ≤ i.toNatClampNeg)) (k : am_W p l e R s m args below meth c Q D cl b0 nL c0 s0 (pc + 1) lv (.int (f i.toNatClampNeg) :: rest) σ top sl) : am_W p l e R s m args below meth c Q D cl b0 nL c0 s0 pc lv (.int i :: .ref a :: rest) σ top sl := by
  intro ls H locs cells slots h
  obtain ⟨hsz, hbt, tys, hK, hcl⟩ := h.2.1
  obtain ⟨hlt, hb0, hft, cA, hin, hH⟩ := hcl a _ ha
  obtain ⟨t0, ht0⟩ := List.getElem?_of_mem hin
  have hP : va_P D cl [(a, .inl (cA, n, .inl f))] H := am_P1 hH
  exact va_zald hx hb hK hP 0 t0 rfl ht0 hi hd (k ls H locs cells slots h)
theorem am_w_getS (hx : p.tables.exec = Jvm.exec) (hb : c.code = cc) {own : String} {index : Nat} (hd : decode cc pc = .ok (.getfield index, 3)) (hown : s.vm.findClass own = some m.cls) {n d : String} {w : Value} {a av : Nat} {f : Nat → Int32} (hl : (Cond.fieldLink own index "java/lang/String" n d).before args s = true) (ha : σ a = some (.inr (.inr (1, av, f))))
    (hw : (n = "value" ∧ d = "[B" ∧ w = .ref av) ∨ (n = "coder" ∧ d = "B" ∧ w = .int 0)) (k : am_W p l e R s m args below meth c Q D cl b0 nL c0 s0 (pc + 3) lv (w :: rest) σ top sl) : am_W p l e R s m args below meth c Q D cl b0 nL c0 s0 pc lv (.ref a :: rest) σ top sl := by
  intro ls H locs cells slots h
  obtain ⟨hsz, hbt, tys, hK, hcl⟩ := h.2.1
  obtain ⟨hlt, hb0, h1, h2, h3⟩ := hcl a _ ha
  rcases hw with ⟨rfl, rfl, rfl⟩ | ⟨rfl, rfl, rfl⟩
  · obtain ⟨cf, kk, i, f1, cell, g1, g2, g3, g4, g5, -⟩ := h3
    exact W.getf hx hb hown hl g1 g2 g3 g4 g5 rfl rfl hd (k ls H locs cells slots h)
  · obtain ⟨cf, kk, i, f1, cell, g1, g2, g3, g4, g5, -⟩ := h2
    exact W.getf hx hb hown hl g1 g2 g3 g4 g5 rfl rfl hd (k ls H locs cells slots h)
theorem am_w_tlen (hx : p.tables.exec = Jvm.exec) (hb : c.code = cc) (hd : decode cc pc = .ok (.arraylength, 1)) {a n : Nat} {f : Nat → Int32} (ha : σ a = some (.inr (.inr (2, n, f)))) (k : am_W p l e R s m args below meth c Q D cl b0 nL c0 s0 (pc + 1) lv (.int (Int32.ofNat n) :: rest) σ top sl) : am_W p l e R s m args below meth c Q D cl b0 nL c0 s0 pc lv (.ref a :: rest) σ top sl := by
  intro ls H locs cells slots h
  obtain ⟨hsz, hbt, tys, hK, hcl⟩ := h.2.1
  obtain ⟨hlt, hb0, cell, g1, g2, g3, g4, g5, g6, -⟩ := hcl a _ ha
  exact W.alen hx hb g1 g2 g5 rfl rfl hd (k ls H locs cells slots h)
theorem am_w_tb (hx : p.tables.exec = Jvm.exec) (hb : c.code = cc) (hd : decode cc pc = .ok (.baload, 1)) {a n : Nat} {f : Nat → Int32} {i : Int32} (ha : σ a = some (.inr (.inr (2, n, f)))) (hi : ¬ (i < 0 ∨ n ≤ i.toNatClampNeg)) (k : am_W p l e R s m args below meth c Q D cl b0 nL c0 s0 (pc + 1) lv (.int (f i.toNatClampNeg) :: rest) σ top sl) : am_W p l e R s m args below meth c Q D cl b0 nL c0 s0 pc lv (.int i :: .ref a :: rest) σ top sl := by
  intro ls H locs cells slots h
  obtain ⟨hsz, hbt, tys, hK, hcl⟩ := h.2.1
  obtain ⟨hlt, hb0, cell, g1, g2, g3, g4, g5, g6, -⟩ := hcl a _ ha
  exact W.bald hx hb g1 g2 g3 (fun z => hi (z.imp id (fun y => Nat.le_trans g4 y))) (g6 _ (Nat.not_le.mp fun z => hi (Or.inr z))) rfl rfl hd (k ls H locs cells slots h)
theorem am_w_lald (hx : p.tables.exec = Jvm.exec) (hb : c.code = cc) (hd : decode cc pc = .ok (.laload, 1)) {a n : Nat} {f : Nat → Int64} {i : Int32} (ha : σ a = some (.inl (.long, n, .inr (.inl f)))) (hi : ¬ (i < 0 ∨ n ≤ i.toNatClampNeg)) (k : am_W p l e R s m args below meth c Q D cl b0 nL c0 s0 (pc + 1) lv (.long (f i.toNatClampNeg) :: rest) σ top sl) : am_W p l e R s m args below meth c Q D cl b0 nL c0 s0 pc lv (.int i :: .ref a :: rest) σ top sl := by
  intro ls H locs cells slots h
  obtain ⟨hsz, hbt, tys, hK, hcl⟩ := h.2.1
  obtain ⟨hlt, hb0, hft, cA, hin, hH⟩ := hcl a _ ha
  obtain ⟨t0, ht0⟩ := List.getElem?_of_mem hin
  have hP : va_P D cl [(a, .inl (cA, n, .inr (.inl f)))] H := am_P1 hH
  exact va_lald hx hb hK hP 0 t0 rfl ht0 hi hd (k ls H locs cells slots h)
theorem am_w_aald (hx : p.tables.exec = Jvm.exec) (hb : c.code = cc) (hd : decode cc pc = .ok (.aaload, 1)) {a n : Nat} {C : String} {f : Nat → Option Nat} {i : Int32} (ha : σ a = some (.inl (.object C, n, .inr (.inr (.inr (.inr f)))))) (hi : ¬ (i < 0 ∨ n ≤ i.toNatClampNeg)) (k : am_W p l e R s m args below meth c Q D cl b0 nL c0 s0 (pc + 1) lv (va_rf (f i.toNatClampNeg) :: rest) σ top sl) : am_W p l e R s m args below meth c Q D cl b0 nL c0 s0 pc lv (.int i :: .ref a :: rest) σ top sl := by
  intro ls H locs cells slots h
  obtain ⟨hsz, hbt, tys, hK, hcl⟩ := h.2.1
  obtain ⟨hlt, hb0, hft, cA, hin, hH⟩ := hcl a _ ha
  obtain ⟨t0, ht0⟩ := List.getElem?_of_mem hin
  have hP : va_P D cl [(a, .inl (cA, n, .inr (.inr (.inr (.inr f)))))] H := am_P1 hH
  exact va_aldq hx hb hK hP 0 t0 rfl ht0 hi hd (k ls H locs cells slots h)
theorem am_w_iast (hx : p.tables.exec = Jvm.exec) (hb : c.code = cc) (hd : decode cc pc = .ok (.iastore, 1)) {a n : Nat} {f : Nat → Int32} {i x : Int32} (ha : σ a = some (.inl (.int, n, .inl f))) (hi : ¬ (i < 0 ∨ n ≤ i.toNatClampNeg)) (k : am_W p l e R s m args below meth c Q D cl b0 nL c0 s0 (pc + 1) lv rest (am_up σ a (.inl (.int, n, .inl (upd f i.toNatClampNeg x)))) top sl) : am_W p l e R s m args below meth c Q D cl b0 nL c0 s0 pc lv (.int x :: .int i :: .ref a :: rest) σ top sl := by
  intro ls H locs cells slots h
  obtain ⟨hsz, hbt, tys, hK, hcl⟩ := h.2.1
  obtain ⟨hlt, hb0, hft, cA, hin, hH⟩ := hcl a _ ha
  obtain ⟨t0, ht0⟩ := List.getElem?_of_mem hin
  refine W.iast hx hb hH ((hK.2 t0 _ ht0).1 n (fun j => .int (f j))) (fun q => by cases q) (by show ¬ (i < 0 ∨ (arrV _ _ _).slots.size ≤ _); rw [arrV_size]; exact hi) rfl rfl hd fun H1 e1 z oq => ?_
  exact k ls H1 _ cells slots ⟨h.1, am_dy_upd hsz hbt hK hcl z oq hlt hb0 ⟨hb0, am_fitU hft rfl, cA, hin, e1.trans (congrArg some (am_set_i cA n f i.toNatClampNeg x))⟩, am_S_put h.2.2.1 z oq hb0, h.2.2.2⟩
theorem am_w_cast (hx : p.tables.exec = Jvm.exec) (hb : c.code = cc) (hd : decode cc pc = .ok (.castore, 1)) {a n : Nat} {f : Nat → Int32} {i x : Int32} (ha : σ a = some (.inl (.char, n, .inl f))) (hi : ¬ (i < 0 ∨ n ≤ i.toNatClampNeg)) (k : am_W p l e R s m args below meth c Q D cl b0 nL c0 s0 (pc + 1) lv rest (am_up σ a (.inl (.char, n, .inl (upd f i.toNatClampNeg (vp_nar .char x))))) top sl) : am_W p l e R s m args below meth c Q D cl b0 nL c0 s0 pc lv (.int x :: .int i :: .ref a :: rest) σ top sl := by
  intro ls H locs cells slots h
  obtain ⟨hsz, hbt, tys, hK, hcl⟩ := h.2.1
  obtain ⟨hlt, hb0, hft, cA, hin, hH⟩ := hcl a _ ha
  obtain ⟨t0, ht0⟩ := List.getElem?_of_mem hin
  refine W.cast hx hb hH ((hK.2 t0 _ ht0).1 n (fun j => .int (f j))) (fun q => by cases q) (by show ¬ (i < 0 ∨ (arrV _ _ _).slots.size ≤ _); rw [arrV_size]; exact hi) rfl rfl hd fun H1 e1 z oq => ?_
  exact k ls H1 _ cells slots ⟨h.1, am_dy_upd hsz hbt hK hcl z oq hlt hb0 ⟨hb0, am_fitU hft (am_narC x), cA, hin, e1.trans (congrArg some (am_set_i cA n f i.toNatClampNeg (vp_nar .char x)))⟩, am_S_put h.2.2.1 z oq hb0, h.2.2.2⟩
theorem am_w_zast (hx : p.tables.exec = Jvm.exec) (hb : c.code = cc) (hd : decode cc pc = .ok (.bastore, 1)) {a n : Nat} {f : Nat → Int32} {i x : Int32} (ha : σ a = some (.inl (.boolean, n, .inl f))) (hi : ¬ (i < 0 ∨ n ≤ i.toNatClampNeg)) (k : am_W p l e R s m args below meth c Q D cl b0 nL c0 s0 (pc + 1) lv rest (am_up σ a (.inl (.boolean, n, .inl (upd f i.toNatClampNeg (vp_nar .boolean x))))) top sl) : am_W p l e R s m args below meth c Q D cl b0 nL c0 s0 pc lv (.int x :: .int i :: .ref a :: rest) σ top sl := by
  intro ls H locs cells slots h
  obtain ⟨hsz, hbt, tys, hK, hcl⟩ := h.2.1
  obtain ⟨hlt, hb0, hft, cA, hin, hH⟩ := hcl a _ ha
  obtain ⟨t0, ht0⟩ := List.getElem?_of_mem hin
  refine W.zast hx hb hH ((hK.2 t0 _ ht0).1 n (fun j => .int (f j))) (fun q => by cases q) (by show ¬ (i < 0 ∨ (arrV _ _ _).slots.size ≤ _); rw [arrV_size]; exact hi) rfl rfl hd fun H1 e1 z oq => ?_
  exact k ls H1 _ cells slots ⟨h.1, am_dy_upd hsz hbt hK hcl z oq hlt hb0 ⟨hb0, am_fitU hft (am_narZ x), cA, hin, e1.trans (congrArg some (am_set_i cA n f i.toNatClampNeg (vp_nar .boolean x)))⟩, am_S_put h.2.2.1 z oq hb0, h.2.2.2⟩
theorem am_w_last (hx : p.tables.exec = Jvm.exec) (hb : c.code = cc) (hd : decode cc pc = .ok (.lastore, 1)) {a n : Nat} {f : Nat → Int64} {i : Int32} {x : Int64} (ha : σ a = some (.inl (.long, n, .inr (.inl f)))) (hi : ¬ (i < 0 ∨ n ≤ i.toNatClampNeg)) (k : am_W p l e R s m args below meth c Q D cl b0 nL c0 s0 (pc + 1) lv rest (am_up σ a (.inl (.long, n, .inr (.inl (vp_updL f i.toNatClampNeg x))))) top sl) : am_W p l e R s m args below meth c Q D cl b0 nL c0 s0 pc lv (.long x :: .int i :: .ref a :: rest) σ top sl := by
  intro ls H locs cells slots h
  obtain ⟨hsz, hbt, tys, hK, hcl⟩ := h.2.1
  obtain ⟨hlt, hb0, hft, cA, hin, hH⟩ := hcl a _ ha
  obtain ⟨t0, ht0⟩ := List.getElem?_of_mem hin
  refine W.last hx hb hH ((hK.2 t0 _ ht0).1 n (fun j => .long (f j))) (fun q => by cases q) (by show ¬ (i < 0 ∨ (arrV _ _ _).slots.size ≤ _); rw [arrV_size]; exact hi) rfl rfl hd fun H1 e1 z oq => ?_
  exact k ls H1 _ cells slots ⟨h.1, am_dy_upd hsz hbt hK hcl z oq hlt hb0 ⟨hb0, trivial, cA, hin, e1.trans (congrArg some (am_set_l cA n f i.toNatClampNeg x))⟩, am_S_put h.2.2.1 z oq hb0, h.2.2.2⟩
theorem am_w_aastN (hx : p.tables.exec = Jvm.exec) (hb : c.code = cc) (hd : decode cc pc = .ok (.aastore, 1)) {a n : Nat} {C : String} {f : Nat → Option Nat} {i : Int32} (ha : σ a = some (.inl (.object C, n, .inr (.inr (.inr (.inr f)))))) (hi : ¬ (i < 0 ∨ n ≤ i.toNatClampNeg)) (k : am_W p l e R s m args below meth c Q D cl b0 nL c0 s0 (pc + 1) lv rest (am_up σ a (.inl (.object C, n, .inr (.inr (.inr (.inr (va_up f i.toNatClampNeg none))))))) top sl) : am_W p l e R s m args below meth c Q D cl b0 nL c0 s0 pc lv (.null :: .int i :: .ref a :: rest) σ top sl := by
  intro ls H locs cells slots h
  obtain ⟨hsz, hbt, tys, hK, hcl⟩ := h.2.1
  obtain ⟨hlt, hb0, hft, cA, hin, hH⟩ := hcl a _ ha
  obtain ⟨t0, ht0⟩ := List.getElem?_of_mem hin
  refine va_WaastN hx hb hH ((hK.2 t0 _ ht0).1 n (fun j => va_rf (f j))) (fun q => by cases q) (by show ¬ (i < 0 ∨ (arrV _ _ _).slots.size ≤ _); rw [arrV_size]; exact hi) rfl rfl hd fun H1 e1 z oq => ?_
  exact k ls H1 _ cells slots ⟨h.1, am_dy_upd hsz hbt hK hcl z oq hlt hb0 ⟨hb0, trivial, cA, hin, e1.trans (congrArg some (am_set_q cA n f i.toNatClampNeg none))⟩, am_S_put h.2.2.1 z oq hb0, h.2.2.2⟩
theorem am_w_aast (hx : p.tables.exec = Jvm.exec) (hb : c.code = cc) (hd : decode cc pc = .ok (.aastore, 1)) {a b n u : Nat} {C : String} {f : Nat → Option Nat} {fs : List Value} {i : Int32} (hnm : ∀ r, cl[u]? = some r → r.1 = C) (ha : σ a = some (.inl (.object C, n, .inr (.inr (.inr (.inr f)))))) (hbv : σ b = some (.inr (.inl (u, fs)))) (hi : ¬ (i < 0 ∨ n ≤ i.toNatClampNeg)) (k : am_W p l e R s m args below meth c Q D cl b0 nL c0 s0 (pc + 1) lv rest (am_up σ a (.inl (.object C, n, .inr (.inr (.inr (.inr (va_up f i.toNatClampNeg (some b)))))))) top sl) : am_W p l e R s m args below meth c Q D cl b0 nL c0 s0 pc lv (.ref b :: .int i :: .ref a :: rest) σ top sl := by
  intro ls H locs cells slots h
  obtain ⟨hsz, hbt, tys, hK, hcl⟩ := h.2.1
  obtain ⟨hlt, hb0, hft, cA, hin, hH⟩ := hcl a _ ha
  obtain ⟨-, -, r, hr, -, cellV, g1, g2, g3, -⟩ := hcl b _ hbv
  obtain ⟨t0, ht0⟩ := List.getElem?_of_mem hin
  have hcls := (hK.1 u r hr).2
  rw [hnm r hr] at hcls
  obtain ⟨kA, comp, k1, k2, k3, -⟩ := (hK.2 t0 _ ht0).2
  have hcomp : comp = D.1 u := Option.some.inj (k3.symm.trans hcls.1)
  subst hcomp
  obtain ⟨kC, hkC, -⟩ := hcls.2
  have hlt2 : i.toNatClampNeg < n := Nat.not_le.mp fun q => hi (Or.inr q)
  refine W.aast hx hb hH (fun q h => by cases h) (fun h => by cases h) k1 k2 rfl hkC ⟨fun q => hi (Or.inl q), by show _ < (arrV _ _ _).slots.size; rw [arrV_size]; exact hlt2⟩ g1 (fun q h => by rw [g3] at h; cases h) (by rw [g2]; exact hkC) (by rw [g2]; exact va_assign hcls) rfl rfl hd fun H1 e1 z oq => ?_
  exact k ls H1 _ cells slots ⟨h.1, am_dy_upd hsz hbt hK hcl z oq hlt hb0 ⟨hb0, trivial, cA, hin, e1.trans (congrArg some (am_set_q cA n f i.toNatClampNeg (some b)))⟩, am_S_put h.2.2.1 z oq hb0, h.2.2.2⟩
theorem am_w_newarr (hx : p.tables.exec = Jvm.exec) (hb : c.code = cc) {at_ : ArrayType} (hd : decode cc pc = .ok (.newarray at_, 2)) (harr : (Cond.arrayClass (newarray.typeOf at_)).before args s = true) {n : Int32} {ar : vp_A} (ha : ∀ cA : ClassId, vp_cell cA ar = arrV cA n.toNatClampNeg (fun _ => defaultValue (newarray.typeOf at_))) (hft : am_fitA (newarray.typeOf at_) ar)
    (hn : ¬ n < 0) (hby : n.toNatClampNeg * componentBytes (newarray.typeOf at_) ≤ 536870912) (hr1 : top + 1 ≤ R.cells + c0) (hr2 : sl + n.toNatClampNeg ≤ R.slots + s0) (k : am_W p l e R s m args below meth c Q D cl b0 nL c0 s0 (pc + 2) lv (.ref top :: rest) (am_up σ top (.inl (newarray.typeOf at_, ar))) (top + 1) (sl + n.toNatClampNeg)) : am_W p l e R s m args below meth c Q D cl b0 nL c0 s0 pc lv (.int n :: rest) σ top sl := by
  intro ls H locs cells slots h
  obtain ⟨hsz, hbt, tys, hK, hcl⟩ := h.2.1
  obtain ⟨hc, hs⟩ := h.2.2.2
  refine va_newaK hx hb harr rfl hd rfl hn rfl hby (by omega) (by omega) hsz fun H1 cA e1 z1 o1 hAr hNm => ?_
  refine k ls H1 locs (cells + 1) (slots + n.toNatClampNeg) ⟨h.1, am_dy_push hsz hbt (am_kapp hK hAr (by cases at_ <;> exact hNm)) (fun x hx => List.mem_append_left _ hx) hcl z1 o1 ⟨hbt, hft, cA, List.mem_append_right _ List.mem_cons_self, by rw [ha]; exact e1⟩, am_S_push h.2.2.1 (by rw [hsz]; exact z1) (fun q hq => o1 q (by rw [← hsz]; exact hq)), by omega, by omega⟩
theorem am_w_anew (hx : p.tables.exec = Jvm.exec) (hb : c.code = cc) {own C : String} {index : Nat} (hd : decode cc pc = .ok (.anewarray index, 3)) (hown : s.vm.findClass own = some m.cls) (hl : (Cond.classLink own index C).before args s = true) (hover : va_AO C s) {n : Int32}
    (hn : ¬ n < 0) (hby : n.toNatClampNeg * 4 ≤ 536870912) (hr1 : top + 1 ≤ R.cells + c0) (hr2 : sl + n.toNatClampNeg ≤ R.slots + s0) (k : am_W p l e R s m args below meth c Q D cl b0 nL c0 s0 (pc + 3) lv (.ref top :: rest) (am_up σ top (.inl (.object C, n.toNatClampNeg, .inr (.inr (.inr (.inr fun _ => none)))))) (top + 1) (sl + n.toNatClampNeg)) : am_W p l e R s m args below meth c Q D cl b0 nL c0 s0 pc lv (.int n :: rest) σ top sl := by
  intro ls H locs cells slots h
  obtain ⟨hsz, hbt, tys, hK, hcl⟩ := h.2.1
  obtain ⟨hc, hs⟩ := h.2.2.2
  refine W.anew hx hb hown hl (va_AO.use hover) rfl hd rfl hn hby (by omega) (by omega) fun cA kA comp f1 f2 f3 f4 => ?_
  rw [hsz]
  generalize hH1 : H.push ({ cls := cA, slots := Array.replicate n.toNatClampNeg .null, vm := .none } : Cell) = H1
  have z1 : H1.size = top + 1 := by rw [← hH1, Array.size_push, hsz]
  have e1 : H1[top]? = some (arrV cA n.toNatClampNeg (fun _ => .null)) := by rw [← hH1, ← hsz, Array.getElem?_push_size, ← arrV_new]
  have o1 : ∀ q : Nat, q < top → H1[q]? = H[q]? := fun q hq => by rw [← hH1, Array.getElem?_push, if_neg (by rw [hsz]; exact Nat.ne_of_lt hq)]
  have hAr : ArrOfT s cA (.object C) := fun N z => ⟨(fun k h => by cases h), kA, f2, comp, f3⟩
  refine k ls H1 locs (cells + 1) (slots + n.toNatClampNeg) ⟨h.1, am_dy_push hsz hbt (am_kapp hK hAr ⟨kA, comp, f2, f3, f4, f1⟩) (fun x hx => List.mem_append_left _ hx) hcl z1 o1 ⟨hbt, trivial, cA, List.mem_append_right _ List.mem_cons_self, ?_⟩, am_S_push h.2.2.1 (by rw [hsz]; exact z1) (fun q hq => o1 q (by rw [← hsz]; exact hq)), by omega, by omega⟩
  rw [vp_cell_q]
  exact e1
theorem am_w_new (hx : p.tables.exec = Jvm.exec) (hb : c.code = cc) {own C : String} {T : u_T} {N u index n : Nat} (hd : decode cc pc = .ok (.new index, 3)) (hown : s.vm.findClass own = some m.cls) (hts : ∀ w ∈ u_ws C T N, w.before args s = true) (hc : cl[u]? = some (C, T, N)) (ty : Nat → FieldType) (hty : ∀ k, k < N → parseFieldDescriptor (T k).2.2.1 = some (ty k))
    (hl : (Cond.classLink own index C).before args s = true) (hins : (Cond.instantiable C n).before args s = true) (hini : (Cond.initialized C).before args s = true) {fs : List Value} (hfs : ∀ j, j < N → defaultValue (ty j) = vp_V fs j) (hfl : fs.length = N) (hr1 : top + 1 ≤ R.cells + c0) (hr2 : sl + n ≤ R.slots + s0)
    (k : am_W p l e R s m args below meth c Q D cl b0 nL c0 s0 (pc + 3) lv (.ref top :: st) (am_up σ top (.inr (.inl (u, fs)))) (top + 1) (sl + n)) : am_W p l e R s m args below meth c Q D cl b0 nL c0 s0 pc lv st σ top sl := by
  intro ls H locs cells slots h
  obtain ⟨hsz, hbt, tys, hK, hcl⟩ := h.2.1
  obtain ⟨hcc, hs⟩ := h.2.2.2
  have hKn := hK.1 u _ hc
  refine W.newcK hx hb hown hl hins hini rfl hd (by omega) (by omega) hKn.2.1 hsz fun H1 kC hkC e1 z1 o1 => ?_
  exact k ls H1 locs (cells + 1) (slots + n) ⟨h.1, am_dy_push hsz hbt hK (fun x hx => hx) hcl z1 o1 ⟨hbt, (C, T, N), hc, hfl, (u_born ty hts (fun _ z => z) hKn hkC e1 hty).to hfs⟩, am_S_push h.2.2.1 (by rw [hsz]; exact z1) (fun q hq => o1 q (by rw [← hsz]; exact hq)), by omega, by omega⟩
theorem am_w_objinit (hx : p.tables.exec = Jvm.exec) (hb : c.code = cc) (hml : c.maxLocals = nL) {own : String} {index : Nat} (hd : decode cc pc = .ok (.invokespecial index, 3)) (hown : s.vm.findClass own = some m.cls) (hl : (Cond.methodLink own index objectInit).before args s = true) (hin : (Cond.instanceMethod objectInit).before args s = true) (hco : (Cond.code objectInit ⟨#[0xb1]⟩ 1 none).before args s = true)
    {a : Nat} (hfr : 1 ≤ R.frames) (hw : (rest.map fun v => v.category).sum ≤ 8) (hlo : 20 ≤ R.locals) (k : am_W p l e R s m args below meth c Q D cl b0 nL c0 s0 (pc + 3) lv rest σ top sl) : am_W p l e R s m args below meth c Q D cl b0 nL c0 s0 pc lv (.ref a :: rest) σ top sl := by
  intro ls H locs cells slots h
  refine W.objInit hx hb hown hl hin hco rfl (by rw [hml]; exact h.1.1.1) rfl hd hfr ?_ (k ls H locs cells slots h)
  show 2 * 0 + _ + 12 ≤ _
  omega
end AMA
