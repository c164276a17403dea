section AMB
variable {p : Program} {l : Launch} {e : Env} {R : Room} {s : State} {m : MethodId} {args : Array Value} {below : List Frame} {meth : Method} {c : Code} {Q : State → Prop}
variable {cc : ByteArray} {D : va_G} {cl : List vw_C} {b0 nL c0 s0 : Nat} {pc top sl : Nat} {lv : am_V} {st rest : List Value} {σ : am_H}
theorem am_w_min (hx : p.tables.exec = Jvm.exec) (hb : c.code = cc) (hml : c.maxLocals = nL) {own : String} {index : Nat} (hown : s.vm.findClass own = some m.cls) (hl : (Cond.methodLink own index Lib.Math.min.name).before args s = true) (hst : (Cond.static Lib.Math.min.name).before args s = true) (hini : (Cond.initialized "java/lang/Math").before args s = true) (hco : (Cond.code Lib.Math.min.name Lib.Math.min.code 2 (some .int)).before args s = true)
    (hd : decode cc pc = .ok (.invokestatic index, 3)) (hfr : 1 ≤ R.frames) (hw : (rest.map fun v => v.category).sum ≤ 8) (hlo : 64 ≤ R.locals) (hr1 : top ≤ R.cells + c0) (hr2 : sl ≤ R.slots + s0) {x y : Int32} (k : am_W p l e R s m args below meth c Q D cl b0 nL c0 s0 (pc + 3) lv (.int (if y < x then y else x) :: rest) σ top sl) : am_W p l e R s m args below meth c Q D cl b0 nL c0 s0 pc lv (.int y :: .int x :: rest) σ top sl := by
  intro ls H locs cells slots h
  obtain ⟨hc, hs⟩ := h.2.2.2
  exact va_mmin hx hb (by rw [hml]; exact h.1.1.1.symm) hown hl hst hini hco hfr (by omega) (by omega) (by omega) hd (k ls H locs cells slots h)
theorem am_w_copy (hx : p.tables.exec = Jvm.exec) (hb : c.code = cc) (hml : c.maxLocals = nL) {own : String} {index : Nat} (hown : s.vm.findClass own = some m.cls) (hl : (Cond.methodLink own index arraycopyName).before args s = true) (hnat : (Cond.native arraycopyName).before args s = true) (hst : (Cond.static arraycopyName).before args s = true) (hini : (Cond.initialized "java/lang/System").before args s = true)
    (hd : decode cc pc = .ok (.invokestatic index, 3)) (hfr : 1 ≤ R.frames) (hw : (rest.map fun v => v.category).sum ≤ 8) (hlo : 8 + (nativeFrameWords "java/lang/System" "arraycopy" 5 + 11) ≤ R.locals) {a b n0 n1 : Nat} {f g : Nat → Int32} {sp dp n : Int32} (ha : σ a = some (.inl (.char, n0, .inl f))) (hbv : σ b = some (.inl (.char, n1, .inl g)))
    (h1 : ¬ sp < 0) (h2 : ¬ dp < 0) (h3 : ¬ n < 0) (h4 : sp.toNatClampNeg + n.toNatClampNeg ≤ n0) (h5 : dp.toNatClampNeg + n.toNatClampNeg ≤ n1)
    (k : am_W p l e R s m args below meth c Q D cl b0 nL c0 s0 (pc + 3) lv rest (am_up σ b (.inl (.char, n1, .inl (va_cpy f g sp.toNatClampNeg dp.toNatClampNeg n.toNatClampNeg)))) top sl) : am_W p l e R s m args below meth c Q D cl b0 nL c0 s0 pc lv (.int n :: .int dp :: .ref b :: .int sp :: .ref a :: rest) σ top sl := by
  have nn : ∀ z : Int32, ¬ z < 0 → z.toInt = (z.toNatClampNeg : Int) := by
    intro z hz
    have hz0 : (0 : Int) ≤ z.toInt := by
      have := Int32.not_lt.mp hz
      simpa using Int32.le_iff_toInt_le.mp this
    show z.toInt = ((z.toInt.toNat : Nat) : Int)
    omega
  intro ls H locs cells slots h T hT X
  obtain ⟨hsz, hbt, tys, hK, hcl⟩ := h.2.1
  obtain ⟨hlta, hb0a, hfta, cA, hina, hHa⟩ := hcl a _ ha
  obtain ⟨hltb, hb0b, hftb, cB, hinb, hHb⟩ := hcl b _ hbv
  obtain ⟨ta, hta⟩ := List.getElem?_of_mem hina
  obtain ⟨tb, htb⟩ := List.getElem?_of_mem hinb
  obtain ⟨-, k0, hk0, cm0, hkk0⟩ := (hK.2 ta _ hta).1 n0 (fun j => .int (f j))
  obtain ⟨-, k1, hk1, cm1, hkk1⟩ := (hK.2 tb _ htb).1 n1 (fun j => .int (g j))
  obtain ⟨vm', X', step⟩ := X.arraycopy hx hown hl hnat hst hini (src := a) (dst := b) (cs := vp_cell cA (n0, .inl f)) (cd := vp_cell cB (n1, .inl g)) (srcPos := sp) (destPos := dp) (n := n) (by rw [hT]; exact hHa) (by rw [hT]; exact hHb)
    (fun _ z => by cases z) (fun _ z => by cases z) (fun z => by cases z) (fun z => by cases z) hk0 hk1 hkk0 hkk1 (by simp [refKind]) h1 h2 h3
    (by rw [nn sp h1, nn n h3]; show ¬ _ > ((arrV cA n0 (fun j => .int (f j))).slots.size : Int); rw [arrV_size]; omega)
    (by rw [nn dp h2, nn n h3]; show ¬ _ > ((arrV cB n1 (fun j => .int (g j))).slots.size : Int); rw [arrV_size]; omega)
    (fun vm₁ _ i hi => by
      have e0 : (vp_cell cA (n0, .inl f)).slots.getD (sp.toNatClampNeg + i) .null = .int (f (sp.toNatClampNeg + i)) := by
        show (arrV cA n0 (fun j => .int (f j))).slots.getD _ _ = _
        rw [Array.getD_eq_getD_getElem?, arrV_read _ _ (by omega)]
        rfl
      refine ⟨?_, ?_⟩
      · rw [e0]
        exact hfta _
      · rw [e0]
        exact trivial)
    (g := F0 m pc ls (.int n :: .int dp :: .ref b :: .int sp :: .ref a :: rest)) rfl (by rw [hml]; exact h.1.1.1) (rest := rest) rfl (by rw [hb]; exact hd) hfr (by show 2 * 0 + _ + _ ≤ _; omega)
  have e1 : copied (vp_cell cA (n0, .inl f)) (vp_cell cB (n1, .inl g)) sp dp n = vp_cell cB (n1, .inl (va_cpy f g sp.toNatClampNeg dp.toNatClampNeg n.toNatClampNeg)) := va_copied (fun z => .int z) cA cB f g h4
  rw [e1] at X' step
  have hsl : b < H.size := by rw [hsz]; exact hltb
  have hheap : ((T.setVm vm').setCell b (vp_cell cB (n1, .inl (va_cpy f g sp.toNatClampNeg dp.toNatClampNeg n.toNatClampNeg)))).heap = H.setIfInBounds b (vp_cell cB (n1, .inl (va_cpy f g sp.toNatClampNeg dp.toNatClampNeg n.toNatClampNeg))) := by rw [← hT]; rfl
  have oq : ∀ q : Nat, q ≠ b → (H.setIfInBounds b (vp_cell cB (n1, .inl (va_cpy f g sp.toNatClampNeg dp.toNatClampNeg n.toNatClampNeg))))[q]? = H[q]? := fun q hq => by simp [Array.getElem?_setIfInBounds, Ne.symm hq]
  have hz : (H.setIfInBounds b (vp_cell cB (n1, .inl (va_cpy f g sp.toNatClampNeg dp.toNatClampNeg n.toNatClampNeg)))).size = H.size := by simp
  have hfit : am_fitA .char (n1, .inl (va_cpy f g sp.toNatClampNeg dp.toNatClampNeg n.toNatClampNeg)) := by
    intro j
    show fits .char (.int (va_cpy f g sp.toNatClampNeg dp.toNatClampNeg n.toNatClampNeg j)) = true
    unfold va_cpy
    split
    · exact hfta _
    · exact hftb _
  have hS := h.2.2.1
  obtain ⟨t2, a1, b1⟩ := k ls _ _ cells slots ⟨h.1, am_dy_upd hsz hbt hK hcl hz oq hltb hb0b ⟨hb0b, hfit, cB, hinb, by simp [Array.getElem?_setIfInBounds, hsl]⟩, ⟨by rw [hz]; exact hS.1, fun q g1 g2 => by
      rw [oq q (fun z => g2 (by rw [z]; exact hb0b))]
      exact hS.2.1 q g1 g2, fun q hq => by
      rcases List.mem_append.mp hq with z | z
      · exact hS.2.2 q z
      · obtain ⟨y, -, hy⟩ := List.mem_map.mp z
        rw [← hy]
        exact hb0b⟩, h.2.2.2⟩ _ hheap X'
  exact ⟨t2, step t2 a1, b1⟩
end AMB
