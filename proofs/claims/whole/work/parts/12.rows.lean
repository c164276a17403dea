/-- the frame's state stands for the abstract one -/
def am_inv (D : va_G) (cl : List vw_C) (b0 : Nat) (s : State) (nL c0 s0 : Nat) (lv : am_V) (σ : am_H) (top sl : Nat) (ls : Array Slot) (H : Heap) (locs : List Loc) (cells slots : Nat) : Prop :=
  am_ls ls nL lv ∧ am_dy D cl b0 s σ top H ∧ va_S (fun q => b0 ≤ q) s.heap H locs ∧ cells + c0 = top ∧ slots + s0 = sl
/-- from every state that stands for this abstract one the machine comes to Q -/
def am_W (p : Program) (l : Launch) (e : Env) (R : Room) (s : State) (m : MethodId) (args : Array Value) (below : List Frame) (meth : Method) (c : Code) (Q : State → Prop) (D : va_G) (cl : List vw_C) (b0 nL c0 s0 pc : Nat) (lv : am_V) (st : List Value) (σ : am_H) (top sl : Nat) : Prop :=
  ∀ (ls : Array Slot) (H : Heap) (locs : List Loc) (cells slots : Nat), am_inv D cl b0 s nL c0 s0 lv σ top sl ls H locs cells slots → W p l e R s m args below meth c H locs cells slots Q (F0 m pc ls st)
section AMS
variable {p : Program} {l : Launch} {e : Env} {R : Room} {s : State} {m : MethodId} {args : Array Value} {below : List Frame} {meth : Method} {c : Code} {Q : State → Prop}
variable {cc : ByteArray} {D : va_G} {cl : List vw_C} {b0 nL c0 s0 : Nat} {pc top sl : Nat} {lv : am_V} {st rest : List Value} {σ : am_H}
theorem am_w_null (hx : p.tables.exec = Jvm.exec) (hb : c.code = cc) (hd : decode cc pc = .ok (.aconst_null, 1)) (k : am_W p l e R s m args below meth c Q D cl b0 nL c0 s0 (pc + 1) lv (.null :: st) σ top sl) : am_W p l e R s m args below meth c Q D cl b0 nL c0 s0 pc lv st σ top sl :=
  fun ls H locs cells slots h => lv_null hx hb hd (k ls H locs cells slots h)
theorem am_w_iconst (hx : p.tables.exec = Jvm.exec) (hb : c.code = cc) {n : Int} (hd : decode cc pc = .ok (.iconst n, 1)) (k : am_W p l e R s m args below meth c Q D cl b0 nL c0 s0 (pc + 1) lv (.int (Int32.ofInt n) :: st) σ top sl) : am_W p l e R s m args below meth c Q D cl b0 nL c0 s0 pc lv st σ top sl :=
  fun ls H locs cells slots h => lv_iconst hx hb hd rfl (k ls H locs cells slots h)
theorem am_w_bipush (hx : p.tables.exec = Jvm.exec) (hb : c.code = cc) {n : Int} (hd : decode cc pc = .ok (.bipush n, 2)) (k : am_W p l e R s m args below meth c Q D cl b0 nL c0 s0 (pc + 2) lv (.int (Int8.ofInt n).toInt32 :: st) σ top sl) : am_W p l e R s m args below meth c Q D cl b0 nL c0 s0 pc lv st σ top sl :=
  fun ls H locs cells slots h => lv_bipush hx hb hd rfl (k ls H locs cells slots h)
theorem am_w_sipush (hx : p.tables.exec = Jvm.exec) (hb : c.code = cc) {n : Int} (hd : decode cc pc = .ok (.sipush n, 3)) (k : am_W p l e R s m args below meth c Q D cl b0 nL c0 s0 (pc + 3) lv (.int (Int16.ofInt n).toInt32 :: st) σ top sl) : am_W p l e R s m args below meth c Q D cl b0 nL c0 s0 pc lv st σ top sl :=
  fun ls H locs cells slots h => lv_sipush hx hb hd rfl (k ls H locs cells slots h)
theorem am_w_iload (hx : p.tables.exec = Jvm.exec) (hb : c.code = cc) {i : Nat} {x : Int32} (hd : decode cc pc = .ok (.iload i, 2)) (hg : am_get lv i = some (.int x)) (k : am_W p l e R s m args below meth c Q D cl b0 nL c0 s0 (pc + 2) lv (.int x :: st) σ top sl) : am_W p l e R s m args below meth c Q D cl b0 nL c0 s0 pc lv st σ top sl :=
  fun ls H locs cells slots h => lv_iload hx hb hd (h.1.at hg) (k ls H locs cells slots h)
theorem am_w_iload_n (hx : p.tables.exec = Jvm.exec) (hb : c.code = cc) {i : Fin 4} {x : Int32} (hd : decode cc pc = .ok (.iload_n i, 1)) (hg : am_get lv i = some (.int x)) (k : am_W p l e R s m args below meth c Q D cl b0 nL c0 s0 (pc + 1) lv (.int x :: st) σ top sl) : am_W p l e R s m args below meth c Q D cl b0 nL c0 s0 pc lv st σ top sl :=
  fun ls H locs cells slots h => lv_iload_n hx hb hd rfl (h.1.at hg) (k ls H locs cells slots h)
theorem am_w_aload (hx : p.tables.exec = Jvm.exec) (hb : c.code = cc) {i : Nat} {x : Option Nat} (hd : decode cc pc = .ok (.aload i, 2)) (hg : am_get lv i = some (va_rf x)) (k : am_W p l e R s m args below meth c Q D cl b0 nL c0 s0 (pc + 2) lv (va_rf x :: st) σ top sl) : am_W p l e R s m args below meth c Q D cl b0 nL c0 s0 pc lv st σ top sl := by
  intro ls H locs cells slots h
  cases x with
  | none => exact lv_aloadN hx hb hd (h.1.at hg) (k ls H locs cells slots h)
  | some a => exact lv_aload hx hb hd (h.1.at hg) (k ls H locs cells slots h)
theorem am_w_aload_n (hx : p.tables.exec = Jvm.exec) (hb : c.code = cc) {i : Fin 4} {x : Option Nat} (hd : decode cc pc = .ok (.aload_n i, 1)) (hg : am_get lv i = some (va_rf x)) (k : am_W p l e R s m args below meth c Q D cl b0 nL c0 s0 (pc + 1) lv (va_rf x :: st) σ top sl) : am_W p l e R s m args below meth c Q D cl b0 nL c0 s0 pc lv st σ top sl := by
  intro ls H locs cells slots h
  cases x with
  | none => exact lv_aload_nN hx hb hd rfl (h.1.at hg) (k ls H locs cells slots h)
  | some a => exact lv_aload_n hx hb hd rfl (h.1.at hg) (k ls H locs cells slots h)
theorem am_w_istore (hx : p.tables.exec = Jvm.exec) (hb : c.code = cc) {i : Nat} {x : Int32} (hd : decode cc pc = .ok (.istore i, 2)) (hi : i < lv.length) (k : am_W p l e R s m args below meth c Q D cl b0 nL c0 s0 (pc + 2) (lv.set i (some (.int x))) rest σ top sl) : am_W p l e R s m args below meth c Q D cl b0 nL c0 s0 pc lv (.int x :: rest) σ top sl :=
  fun ls H locs cells slots h => lv_istore hx hb hd h.1.1 (by rw [← h.1.2.1]; exact hi) rfl (fun ls' h' => k ls' H locs cells slots ⟨h.1.st hi rfl h', h.2⟩)
theorem am_w_istore_n (hx : p.tables.exec = Jvm.exec) (hb : c.code = cc) {i : Fin 4} {x : Int32} (hd : decode cc pc = .ok (.istore_n i, 1)) (hi : (i : Nat) < lv.length) (k : am_W p l e R s m args below meth c Q D cl b0 nL c0 s0 (pc + 1) (lv.set i (some (.int x))) rest σ top sl) : am_W p l e R s m args below meth c Q D cl b0 nL c0 s0 pc lv (.int x :: rest) σ top sl :=
  fun ls H locs cells slots h => lv_istore_n hx hb hd rfl h.1.1 (by rw [← h.1.2.1]; exact hi) rfl (fun ls' h' => k ls' H locs cells slots ⟨h.1.st hi rfl h', h.2⟩)
theorem am_w_astore (hx : p.tables.exec = Jvm.exec) (hb : c.code = cc) {i : Nat} {x : Option Nat} (hd : decode cc pc = .ok (.astore i, 2)) (hi : i < lv.length) (k : am_W p l e R s m args below meth c Q D cl b0 nL c0 s0 (pc + 2) (lv.set i (some (va_rf x))) rest σ top sl) : am_W p l e R s m args below meth c Q D cl b0 nL c0 s0 pc lv (va_rf x :: rest) σ top sl := by
  intro ls H locs cells slots h
  cases x with
  | none => exact lv_astoreN hx hb hd h.1.1 (by rw [← h.1.2.1]; exact hi) rfl (fun ls' h' => k ls' H locs cells slots ⟨h.1.st hi rfl h', h.2⟩)
  | some a => exact lv_astore hx hb hd h.1.1 (by rw [← h.1.2.1]; exact hi) rfl (fun ls' h' => k ls' H locs cells slots ⟨h.1.st hi rfl h', h.2⟩)
theorem am_w_astore_n (hx : p.tables.exec = Jvm.exec) (hb : c.code = cc) {i : Fin 4} {x : Option Nat} (hd : decode cc pc = .ok (.astore_n i, 1)) (hi : (i : Nat) < lv.length) (k : am_W p l e R s m args below meth c Q D cl b0 nL c0 s0 (pc + 1) (lv.set i (some (va_rf x))) rest σ top sl) : am_W p l e R s m args below meth c Q D cl b0 nL c0 s0 pc lv (va_rf x :: rest) σ top sl := by
  intro ls H locs cells slots h
  cases x with
  | none => exact lv_astore_nN hx hb hd rfl h.1.1 (by rw [← h.1.2.1]; exact hi) rfl (fun ls' h' => k ls' H locs cells slots ⟨h.1.st hi rfl h', h.2⟩)
  | some a => exact lv_astore_n hx hb hd rfl h.1.1 (by rw [← h.1.2.1]; exact hi) rfl (fun ls' h' => k ls' H locs cells slots ⟨h.1.st hi rfl h', h.2⟩)
theorem am_w_iinc (hx : p.tables.exec = Jvm.exec) (hb : c.code = cc) {i : Nat} {n : Int} {x : Int32} (hd : decode cc pc = .ok (.iinc i n, 3)) (hg : am_get lv i = some (.int x)) (k : am_W p l e R s m args below meth c Q D cl b0 nL c0 s0 (pc + 3) (lv.set i (some (.int (x + Int32.ofInt n)))) st σ top sl) : am_W p l e R s m args below meth c Q D cl b0 nL c0 s0 pc lv st σ top sl := by
  intro ls H locs cells slots h
  have hi := am_get_lt hg
  obtain ⟨kk, hk⟩ := List.getElem?_of_mem (am_as_mem.mpr hg)
  exact lv_iinc hx hb hd h.1.1 hk rfl (by rw [← h.1.2.1]; exact hi) rfl (fun ls' h' => k ls' H locs cells slots ⟨h.1.st hi rfl h', h.2⟩)
theorem am_w_iadd (hx : p.tables.exec = Jvm.exec) (hb : c.code = cc) {x y : Int32} (hd : decode cc pc = .ok (.iadd, 1)) (k : am_W p l e R s m args below meth c Q D cl b0 nL c0 s0 (pc + 1) lv (.int (x + y) :: rest) σ top sl) : am_W p l e R s m args below meth c Q D cl b0 nL c0 s0 pc lv (.int y :: .int x :: rest) σ top sl :=
  fun ls H locs cells slots h => lv_iadd hx hb hd (k ls H locs cells slots h)
theorem am_w_isub (hx : p.tables.exec = Jvm.exec) (hb : c.code = cc) {x y : Int32} (hd : decode cc pc = .ok (.isub, 1)) (k : am_W p l e R s m args below meth c Q D cl b0 nL c0 s0 (pc + 1) lv (.int (x - y) :: rest) σ top sl) : am_W p l e R s m args below meth c Q D cl b0 nL c0 s0 pc lv (.int y :: .int x :: rest) σ top sl :=
  fun ls H locs cells slots h => lv_isub hx hb hd (k ls H locs cells slots h)
theorem am_w_imul (hx : p.tables.exec = Jvm.exec) (hb : c.code = cc) {x y : Int32} (hd : decode cc pc = .ok (.imul, 1)) (k : am_W p l e R s m args below meth c Q D cl b0 nL c0 s0 (pc + 1) lv (.int (x * y) :: rest) σ top sl) : am_W p l e R s m args below meth c Q D cl b0 nL c0 s0 pc lv (.int y :: .int x :: rest) σ top sl :=
  fun ls H locs cells slots h => lv_imul hx hb hd (k ls H locs cells slots h)
theorem am_w_iand (hx : p.tables.exec = Jvm.exec) (hb : c.code = cc) {x y : Int32} (hd : decode cc pc = .ok (.iand, 1)) (k : am_W p l e R s m args below meth c Q D cl b0 nL c0 s0 (pc + 1) lv (.int (x &&& y) :: rest) σ top sl) : am_W p l e R s m args below meth c Q D cl b0 nL c0 s0 pc lv (.int y :: .int x :: rest) σ top sl :=
  fun ls H locs cells slots h => lv_iand hx hb hd (k ls H locs cells slots h)
theorem am_w_ior (hx : p.tables.exec = Jvm.exec) (hb : c.code = cc) {x y : Int32} (hd : decode cc pc = .ok (.ior, 1)) (k : am_W p l e R s m args below meth c Q D cl b0 nL c0 s0 (pc + 1) lv (.int (x ||| y) :: rest) σ top sl) : am_W p l e R s m args below meth c Q D cl b0 nL c0 s0 pc lv (.int y :: .int x :: rest) σ top sl :=
  fun ls H locs cells slots h => lv_ior hx hb hd (k ls H locs cells slots h)
theorem am_w_ishl (hx : p.tables.exec = Jvm.exec) (hb : c.code = cc) {x y : Int32} (hd : decode cc pc = .ok (.ishl, 1)) (k : am_W p l e R s m args below meth c Q D cl b0 nL c0 s0 (pc + 1) lv (.int (x <<< (y &&& 31)) :: rest) σ top sl) : am_W p l e R s m args below meth c Q D cl b0 nL c0 s0 pc lv (.int y :: .int x :: rest) σ top sl :=
  fun ls H locs cells slots h => lv_ishl hx hb hd (k ls H locs cells slots h)
theorem am_w_ishr (hx : p.tables.exec = Jvm.exec) (hb : c.code = cc) {x y : Int32} (hd : decode cc pc = .ok (.ishr, 1)) (k : am_W p l e R s m args below meth c Q D cl b0 nL c0 s0 (pc + 1) lv (.int (x >>> (y &&& 31)) :: rest) σ top sl) : am_W p l e R s m args below meth c Q D cl b0 nL c0 s0 pc lv (.int y :: .int x :: rest) σ top sl :=
  fun ls H locs cells slots h => lv_ishr hx hb hd (k ls H locs cells slots h)
theorem am_w_idiv (hx : p.tables.exec = Jvm.exec) (hb : c.code = cc) {x y : Int32} (hd : decode cc pc = .ok (.idiv, 1)) (hy : ¬ y = 0) (k : am_W p l e R s m args below meth c Q D cl b0 nL c0 s0 (pc + 1) lv (.int (x / y) :: rest) σ top sl) : am_W p l e R s m args below meth c Q D cl b0 nL c0 s0 pc lv (.int y :: .int x :: rest) σ top sl :=
  fun ls H locs cells slots h => lv_idiv hx hb hd hy (k ls H locs cells slots h)
theorem am_w_irem (hx : p.tables.exec = Jvm.exec) (hb : c.code = cc) {x y : Int32} (hd : decode cc pc = .ok (.irem, 1)) (hy : ¬ y = 0) (k : am_W p l e R s m args below meth c Q D cl b0 nL c0 s0 (pc + 1) lv (.int (x - x / y * y) :: rest) σ top sl) : am_W p l e R s m args below meth c Q D cl b0 nL c0 s0 pc lv (.int y :: .int x :: rest) σ top sl :=
  fun ls H locs cells slots h => lv_irem hx hb hd hy (k ls H locs cells slots h)
theorem am_w_i2c (hx : p.tables.exec = Jvm.exec) (hb : c.code = cc) {x : Int32} (hd : decode cc pc = .ok (.i2c, 1)) (k : am_W p l e R s m args below meth c Q D cl b0 nL c0 s0 (pc + 1) lv (.int (x.toUInt32 % 65536).toInt32 :: rest) σ top sl) : am_W p l e R s m args below meth c Q D cl b0 nL c0 s0 pc lv (.int x :: rest) σ top sl :=
  fun ls H locs cells slots h => lv_i2c hx hb hd rfl (k ls H locs cells slots h)
theorem am_w_i2l (hx : p.tables.exec = Jvm.exec) (hb : c.code = cc) {x : Int32} (hd : decode cc pc = .ok (.i2l, 1)) (k : am_W p l e R s m args below meth c Q D cl b0 nL c0 s0 (pc + 1) lv (.long x.toInt64 :: rest) σ top sl) : am_W p l e R s m args below meth c Q D cl b0 nL c0 s0 pc lv (.int x :: rest) σ top sl :=
  fun ls H locs cells slots h => lv_i2l hx hb hd rfl (k ls H locs cells slots h)
theorem am_w_lcmp (hx : p.tables.exec = Jvm.exec) (hb : c.code = cc) {x y : Int64} (hd : decode cc pc = .ok (.lcmp, 1)) (k : am_W p l e R s m args below meth c Q D cl b0 nL c0 s0 (pc + 1) lv (.int (lg_cmp x y) :: rest) σ top sl) : am_W p l e R s m args below meth c Q D cl b0 nL c0 s0 pc lv (.long y :: .long x :: rest) σ top sl :=
  fun ls H locs cells slots h => W.lcmp hx hb hd (k ls H locs cells slots h)
theorem am_w_dup (hx : p.tables.exec = Jvm.exec) (hb : c.code = cc) {x : Value} (hd : decode cc pc = .ok (.dup, 1)) (hc : x.category = 1) (k : am_W p l e R s m args below meth c Q D cl b0 nL c0 s0 (pc + 1) lv (x :: x :: rest) σ top sl) : am_W p l e R s m args below meth c Q D cl b0 nL c0 s0 pc lv (x :: rest) σ top sl :=
  fun ls H locs cells slots h => lv_dup hx hb hd hc (k ls H locs cells slots h)
theorem am_w_pop (hx : p.tables.exec = Jvm.exec) (hb : c.code = cc) {x : Value} (hd : decode cc pc = .ok (.pop, 1)) (hc : x.category = 1) (k : am_W p l e R s m args below meth c Q D cl b0 nL c0 s0 (pc + 1) lv rest σ top sl) : am_W p l e R s m args below meth c Q D cl b0 nL c0 s0 pc lv (x :: rest) σ top sl :=
  fun ls H locs cells slots h => lv_pop hx hb hd hc (k ls H locs cells slots h)
theorem am_w_dup_x1 (hx : p.tables.exec = Jvm.exec) (hb : c.code = cc) {x y : Value} (hd : decode cc pc = .ok (.dup_x1, 1)) (hc : x.category = 1) (hc2 : y.category = 1) (k : am_W p l e R s m args below meth c Q D cl b0 nL c0 s0 (pc + 1) lv (x :: y :: x :: rest) σ top sl) : am_W p l e R s m args below meth c Q D cl b0 nL c0 s0 pc lv (x :: y :: rest) σ top sl :=
  fun ls H locs cells slots h => lv_dup_x1 hx hb hd hc hc2 (k ls H locs cells slots h)
theorem am_w_dup2 (hx : p.tables.exec = Jvm.exec) (hb : c.code = cc) {x y : Value} (hd : decode cc pc = .ok (.dup2, 1)) (hc : x.category = 1) (hc2 : y.category = 1) (k : am_W p l e R s m args below meth c Q D cl b0 nL c0 s0 (pc + 1) lv (x :: y :: x :: y :: rest) σ top sl) : am_W p l e R s m args below meth c Q D cl b0 nL c0 s0 pc lv (x :: y :: rest) σ top sl :=
  fun ls H locs cells slots h => lv_dup2_11 hx hb hd hc hc2 (k ls H locs cells slots h)
theorem am_w_goto (hx : p.tables.exec = Jvm.exec) (hb : c.code = cc) {off : Int} {u : Nat} (hd : decode cc pc = .ok (.goto off, 3)) (ht : (pc : Int) + off = (u : Int)) (k : am_W p l e R s m args below meth c Q D cl b0 nL c0 s0 u lv st σ top sl) : am_W p l e R s m args below meth c Q D cl b0 nL c0 s0 pc lv st σ top sl :=
  fun ls H locs cells slots h => lv_goto hx hb hd ht (k ls H locs cells slots h)
theorem am_w_if (hx : p.tables.exec = Jvm.exec) (hb : c.code = cc) {cd : ClassFile.Cond} {off : Int} {u : Nat} {x : Int32} (hd : decode cc pc = .ok (.ifCond cd off, 3)) (ht : (pc : Int) + off = (u : Int)) (kt : am_cb cd x 0 = true → am_W p l e R s m args below meth c Q D cl b0 nL c0 s0 u lv rest σ top sl) (kf : ¬ am_cb cd x 0 = true → am_W p l e R s m args below meth c Q D cl b0 nL c0 s0 (pc + 3) lv rest σ top sl) : am_W p l e R s m args below meth c Q D cl b0 nL c0 s0 pc lv (.int x :: rest) σ top sl := by
  intro ls H locs cells slots h
  cases cd with
  | eq => exact lv_if_eq hx hb hd ht (fun q => kt (decide_eq_true q) ls H locs cells slots h) (fun q => kf (fun z => q (of_decide_eq_true z)) ls H locs cells slots h)
  | ne => exact lv_if_ne hx hb hd ht (fun q => kt (decide_eq_true q) ls H locs cells slots h) (fun q => kf (fun z => of_decide_eq_true z q) ls H locs cells slots h)
  | lt => exact lv_if_lt hx hb hd ht (fun q => kt (decide_eq_true q) ls H locs cells slots h) (fun q => kf (fun z => q (of_decide_eq_true z)) ls H locs cells slots h)
  | ge => exact lv_if_ge hx hb hd ht (fun q => kt (decide_eq_true q) ls H locs cells slots h) (fun q => kf (fun z => q (of_decide_eq_true z)) ls H locs cells slots h)
  | gt => exact lv_if_gt hx hb hd ht (fun q => kt (decide_eq_true q) ls H locs cells slots h) (fun q => kf (fun z => q (of_decide_eq_true z)) ls H locs cells slots h)
  | le => exact lv_if_le hx hb hd ht (fun q => kt (decide_eq_true q) ls H locs cells slots h) (fun q => kf (fun z => q (of_decide_eq_true z)) ls H locs cells slots h)
theorem am_w_icmp (hx : p.tables.exec = Jvm.exec) (hb : c.code = cc) {cd : ClassFile.Cond} {off : Int} {u : Nat} {x y : Int32} (hd : decode cc pc = .ok (.if_icmp cd off, 3)) (ht : (pc : Int) + off = (u : Int)) (kt : am_cb cd x y = true → am_W p l e R s m args below meth c Q D cl b0 nL c0 s0 u lv rest σ top sl) (kf : ¬ am_cb cd x y = true → am_W p l e R s m args below meth c Q D cl b0 nL c0 s0 (pc + 3) lv rest σ top sl) : am_W p l e R s m args below meth c Q D cl b0 nL c0 s0 pc lv (.int y :: .int x :: rest) σ top sl := by
  intro ls H locs cells slots h
  cases cd with
  | eq => exact lv_icmp_eq hx hb hd ht (fun q => kt (decide_eq_true q) ls H locs cells slots h) (fun q => kf (fun z => q (of_decide_eq_true z)) ls H locs cells slots h)
  | ne => exact lv_icmp_ne hx hb hd ht (fun q => kt (decide_eq_true q) ls H locs cells slots h) (fun q => kf (fun z => of_decide_eq_true z q) ls H locs cells slots h)
  | lt => exact lv_icmp_lt hx hb hd ht (fun q => kt (decide_eq_true q) ls H locs cells slots h) (fun q => kf (fun z => q (of_decide_eq_true z)) ls H locs cells slots h)
  | ge => exact lv_icmp_ge hx hb hd ht (fun q => kt (decide_eq_true q) ls H locs cells slots h) (fun q => kf (fun z => q (of_decide_eq_true z)) ls H locs cells slots h)
  | gt => exact lv_icmp_gt hx hb hd ht (fun q => kt (decide_eq_true q) ls H locs cells slots h) (fun q => kf (fun z => q (of_decide_eq_true z)) ls H locs cells slots h)
  | le => exact lv_icmp_le hx hb hd ht (fun q => kt (decide_eq_true q) ls H locs cells slots h) (fun q => kf (fun z => q (of_decide_eq_true z)) ls H locs cells slots h)
theorem am_w_acmp_eq (hx : p.tables.exec = Jvm.exec) (hb : c.code = cc) {off : Int} {u : Nat} {x y : Option Nat} (hd : decode cc pc = .ok (.if_acmp .eq off, 3)) (ht : (pc : Int) + off = (u : Int)) (kt : x = y → am_W p l e R s m args below meth c Q D cl b0 nL c0 s0 u lv rest σ top sl) (kf : ¬ x = y → am_W p l e R s m args below meth c Q D cl b0 nL c0 s0 (pc + 3) lv rest σ top sl) : am_W p l e R s m args below meth c Q D cl b0 nL c0 s0 pc lv (va_rf y :: va_rf x :: rest) σ top sl :=
  fun ls H locs cells slots h => lv_acmp_eq hx hb hd ht (fun q => kt q ls H locs cells slots h) (fun q => kf q ls H locs cells slots h)
theorem am_w_acmp_ne (hx : p.tables.exec = Jvm.exec) (hb : c.code = cc) {off : Int} {u : Nat} {x y : Option Nat} (hd : decode cc pc = .ok (.if_acmp .ne off, 3)) (ht : (pc : Int) + off = (u : Int)) (kt : ¬ x = y → am_W p l e R s m args below meth c Q D cl b0 nL c0 s0 u lv rest σ top sl) (kf : x = y → am_W p l e R s m args below meth c Q D cl b0 nL c0 s0 (pc + 3) lv rest σ top sl) : am_W p l e R s m args below meth c Q D cl b0 nL c0 s0 pc lv (va_rf y :: va_rf x :: rest) σ top sl :=
  fun ls H locs cells slots h => lv_acmp_ne hx hb hd ht (fun q => kt q ls H locs cells slots h) (fun q => kf q ls H locs cells slots h)
theorem am_w_ifnull (hx : p.tables.exec = Jvm.exec) (hb : c.code = cc) {off : Int} {u : Nat} {x : Option Nat} (hd : decode cc pc = .ok (.ifnull off, 3)) (ht : (pc : Int) + off = (u : Int)) (kt : x = none → am_W p l e R s m args below meth c Q D cl b0 nL c0 s0 u lv rest σ top sl) (kf : ∀ a, x = some a → am_W p l e R s m args below meth c Q D cl b0 nL c0 s0 (pc + 3) lv rest σ top sl) : am_W p l e R s m args below meth c Q D cl b0 nL c0 s0 pc lv (va_rf x :: rest) σ top sl := by
  intro ls H locs cells slots h
  cases x with
  | none => exact lv_ifnullN hx hb hd ht (kt rfl ls H locs cells slots h)
  | some a => exact lv_ifnull hx hb hd (kf a rfl ls H locs cells slots h)
theorem am_w_ifnonnull (hx : p.tables.exec = Jvm.exec) (hb : c.code = cc) {off : Int} {u : Nat} {x : Option Nat} (hd : decode cc pc = .ok (.ifnonnull off, 3)) (ht : (pc : Int) + off = (u : Int)) (kt : ∀ a, x = some a → am_W p l e R s m args below meth c Q D cl b0 nL c0 s0 u lv rest σ top sl) (kf : x = none → am_W p l e R s m args below meth c Q D cl b0 nL c0 s0 (pc + 3) lv rest σ top sl) : am_W p l e R s m args below meth c Q D cl b0 nL c0 s0 pc lv (va_rf x :: rest) σ top sl := by
  intro ls H locs cells slots h
  cases x with
  | none => exact lv_ifnonnullN hx hb hd (kf rfl ls H locs cells slots h)
  | some a => exact lv_ifnonnull hx hb hd ht (kt a rfl ls H locs cells slots h)
theorem am_w_tsw (hx : p.tables.exec = Jvm.exec) (hb : c.code = cc) {dflt lo hi : Int} {offs : Array Int} {len : Nat} {x : Int32} (hd : decode cc pc = .ok (.tableswitch dflt lo hi offs, len)) (h0 : x.toInt < lo ∨ hi < x.toInt) (ht : 0 ≤ (pc : Int) + dflt) (k : am_W p l e R s m args below meth c Q D cl b0 nL c0 s0 (((pc : Int) + dflt).toNat) lv rest σ top sl) : am_W p l e R s m args below meth c Q D cl b0 nL c0 s0 pc lv (.int x :: rest) σ top sl :=
  fun ls H locs cells slots h => lv_tableOut hx hb hd h0 (Int.toNat_of_nonneg ht).symm (k ls H locs cells slots h)
theorem am_w_tsw2 (hx : p.tables.exec = Jvm.exec) (hb : c.code = cc) {dflt lo hi off : Int} {offs : Array Int} {len : Nat} {x : Int32} (hd : decode cc pc = .ok (.tableswitch dflt lo hi offs, len)) (h0 : ¬ (x.toInt < lo ∨ hi < x.toInt)) (ho : offs[(x.toInt - lo).toNat]? = some off) (ht : 0 ≤ (pc : Int) + off) (k : am_W p l e R s m args below meth c Q D cl b0 nL c0 s0 (((pc : Int) + off).toNat) lv rest σ top sl) : am_W p l e R s m args below meth c Q D cl b0 nL c0 s0 pc lv (.int x :: rest) σ top sl :=
  fun ls H locs cells slots h => lv_tableIn hx hb hd (fun q => h0 (Or.inl q)) (fun q => h0 (Or.inr q)) ho (Int.toNat_of_nonneg ht).symm (k ls H locs cells slots h)
theorem am_w_lsw (hx : p.tables.exec = Jvm.exec) (hb : c.code = cc) {dflt : Int} {ps : Array (Int × Int)} {len : Nat} {x : Int32} (hd : decode cc pc = .ok (.lookupswitch dflt ps, len)) (hp : (ps.toList.zip (ps.toList.drop 1)).all (fun (a, next) => a.1 < next.1) = true) (ht : 0 ≤ (pc : Int) + Op.lookupswitch.offset ps.toList dflt x.toInt) (k : am_W p l e R s m args below meth c Q D cl b0 nL c0 s0 (((pc : Int) + Op.lookupswitch.offset ps.toList dflt x.toInt).toNat) lv rest σ top sl) : am_W p l e R s m args below meth c Q D cl b0 nL c0 s0 pc lv (.int x :: rest) σ top sl :=
  fun ls H locs cells slots h => lv_lookup hx hb hd hp rfl (Int.toNat_of_nonneg ht).symm (k ls H locs cells slots h)
theorem am_w_ldc (hx : p.tables.exec = Jvm.exec) (hb : c.code = cc) {own tx : String} {index q : Nat} (hown : s.vm.findClass own = some m.cls) (hZ : vk_R own index tx q s) (hd : decode cc pc = .ok (.ldc index, 2)) (k : am_W p l e R s m args below meth c Q D cl b0 nL c0 s0 (pc + 2) lv (.ref q :: st) σ top sl) : am_W p l e R s m args below meth c Q D cl b0 nL c0 s0 pc lv st σ top sl :=
  fun ls H locs cells slots h => va_ldcS hx hb hown hZ hd (k ls H locs cells slots h)
theorem am_w_gets (hx : p.tables.exec = Jvm.exec) (hb : c.code = cc) {C n d own : String} {index : Nat} {v : Value} (hown : s.vm.findClass own = some m.cls) (hZ : va_Z C n d v (fun q => b0 ≤ q) s s.heap) (hl : (Cond.fieldLink own index C n d).before args s = true) (hd : decode cc pc = .ok (.getstatic index, 3)) (k : am_W p l e R s m args below meth c Q D cl b0 nL c0 s0 (pc + 3) lv (v :: st) σ top sl) : am_W p l e R s m args below meth c Q D cl b0 nL c0 s0 pc lv st σ top sl :=
  fun ls H locs cells slots h => va_gets hx hb hZ h.2.2.1 hown hl (fun _ q => q) hd (k ls H locs cells slots h)
theorem am_w_getf (hx : p.tables.exec = Jvm.exec) (hb : c.code = cc) {own C : String} {T : u_T} {N u index : Nat} (hown : s.vm.findClass own = some m.cls) (hts : ∀ w ∈ u_ws C T N, w.before args s = true) (hc : cl[u]? = some (C, T, N)) (hdecl : ∀ k, k < N → (T k).1 = C) {v : Nat} (hv : v < N)
    (hl : (Cond.fieldLink own index C (T v).2.1 (T v).2.2.1).before args s = true ∨ ∃ host, (Cond.fieldLinkNest own index C (T v).2.1 (T v).2.2.1 host).before args s = true) (hd : decode cc pc = .ok (.getfield index, 3)) {a : Nat} {fs : List Value} {w : Value} (ha : σ a = some (.inr (.inl (u, fs)))) (hw : fs[v]? = some w)
    (k : am_W p l e R s m args below meth c Q D cl b0 nL c0 s0 (pc + 3) lv (w :: rest) σ top sl) : am_W p l e R s m args below meth c Q D cl b0 nL c0 s0 pc lv (.ref a :: rest) σ top sl := by
  intro ls H locs cells slots h
  obtain ⟨hsz, hbt, tys, hK, hcl⟩ := h.2.1
  obtain ⟨-, -, r, hr, -, hob⟩ := hcl a _ ha
  have hP : va_P D cl [(a, .inr (u, fs))] H := am_P1 ⟨r, hr, hob⟩
  rcases hl with hl | ⟨host, hl⟩
  · exact va_get hx hb hts (fun _ z => z) hown hK hP 0 rfl hc v hv hl (fun x q => by rw [hdecl v hv] at q; exact q) hw hd (k ls H locs cells slots h)
  · exact va_getN hx hb hts (fun _ z => z) hown hK hP 0 rfl hc v hv hl (fun x q => by rw [hdecl v hv] at q; exact q) hw hd (k ls H locs cells slots h)
theorem am_w_putf (hx : p.tables.exec = Jvm.exec) (hb : c.code = cc) {own C : String} {T : u_T} {N u index : Nat} (hown : s.vm.findClass own = some m.cls) (hts : ∀ w ∈ u_ws C T N, w.before args s = true) (hc : cl[u]? = some (C, T, N)) (hdecl : ∀ k, k < N → (T k).1 = C) (ty : Nat → FieldType) (hty : ∀ k, k < N → parseFieldDescriptor (T k).2.2.1 = some (ty k)) (hnm : ∀ a, a < N → ∀ b, b < N → a ≠ b → (T a).2.1 ≠ (T b).2.1) {v : Nat} (hv : v < N)
    (hl : (Cond.fieldLink own index C (T v).2.1 (T v).2.2.1).before args s = true ∧ ((T v).2.2.2 = false ∨ ((T v).2.2.2 = true ∧ meth.name = "<init>" ∧ own = C)) ∨ (T v).2.2.2 = false ∧ ∃ host, (Cond.fieldLinkNest own index C (T v).2.1 (T v).2.2.1 host).before args s = true) (hd : decode cc pc = .ok (.putfield index, 3)) {a : Nat} {fs : List Value} {w : Value} (ha : σ a = some (.inr (.inl (u, fs)))) (hw : am_fv (ty v) w = true)
    (k : am_W p l e R s m args below meth c Q D cl b0 nL c0 s0 (pc + 3) lv rest (am_up σ a (.inr (.inl (u, fs.set v w)))) top sl) : am_W p l e R s m args below meth c Q D cl b0 nL c0 s0 pc lv (w :: .ref a :: rest) σ top sl := by
  intro ls H locs cells slots h
  obtain ⟨hsz, hbt, tys, hK, hcl⟩ := h.2.1
  obtain ⟨hlt, hb0, r, hr, hfl, cell, q1, q2, q3, q4⟩ := hcl a _ ha
  have hap := va_apart (own := own) hts (fun _ z => z) ty hty hnm hK hc
  have hr2 : r = (C, T, N) := Option.some.inj (hr.symm.trans hc)
  subst hr2
  obtain ⟨hSl, hfc, kC, hkC, hkind⟩ := hK.1 u _ hc
  obtain ⟨cf, kf, fi, f, hi, hsl⟩ := hSl v hv
  have hi2 : s.fieldFound? C (T v).2.1 (T v).2.2.1 = some (cf, kf, fi, f) := by rw [hdecl v hv] at hi; exact hi
  have hst := (u_facts hfc hkC (u_lays hts (fun _ z => z) hv) hi).1
  have hok := am_fv_ok hw
  have hfin : ∀ (H' : Heap), H'[a]? = some (cell.setSlot f.slot w) → H'.size = H.size → (∀ q, q ≠ a → H'[q]? = H[q]?) → W p l e R s m args below meth c H' (locs ++ [⟨a, f.slot⟩]) cells slots Q (F0 m (pc + 3) ls rest) := by
    intro H' e1 e2 e3
    refine k ls H' _ cells slots ⟨h.1, am_dy_upd hsz hbt hK hcl e2 e3 hlt hb0 ⟨hb0, (C, T, N), hc, by rw [List.length_set]; exact hfl, ?_⟩, am_S_put h.2.2.1 e2 e3 hb0, h.2.2.2⟩
    rw [hsl] at e1
    exact t_OB.to (V := updV (vp_V fs) v w) ⟨_, e1, q2, q3, t_set q4 hap hv w⟩ (fun j _ => vp_updV_set (by rw [hfl]; exact hv) w j)
  rcases hl with ⟨hl, hf | ⟨hf, hm, ho⟩⟩ | ⟨hf, host, hl⟩
  · have hlay := hts _ (u_in_lay hv)
    unfold u_lay at hlay
    rw [if_neg (by rw [hf]; decide)] at hlay
    have h6 := u_store hfc hkC hkind hlay hi (hty v hv) hok.1 hok.2
    exact W.putK hx hb (f := f) ⟨hown, hl, ⟨_, _, _, hi2⟩, hst⟩ (by rw [q2]; exact h6) q1 q3 (by rw [hsl]; exact k2_hasslot (q4 v hv)) rfl rfl hd hfin
  · have hlay := hts _ (u_in_lay hv)
    unfold u_lay at hlay
    rw [if_pos hf] at hlay
    have hcf : m.cls = cf := by
      obtain ⟨_, _, c', _, _, _, -, -, hf', -, -, -, hown2, -⟩ := Cond.laysFinal_spec hlay
      have e1 : c' = cf := by have := hi.symm.trans hf'; simp at this; exact this.1.symm
      rw [hdecl v hv, ← ho] at hown2
      rw [← e1]; exact Option.some.inj (hown.symm.trans hown2)
    have h6 := u_fits hfc hkC hkind (Or.inr hlay) hi (hty v hv) hok.1 hok.2
    exact W.putFinK hx hb hown hl hi2 hst hcf hm (by rw [q2]; exact h6) q1 q3 (by rw [hsl]; exact k2_hasslot (q4 v hv)) rfl rfl hd hfin
  · have hlay := hts _ (u_in_lay hv)
    unfold u_lay at hlay
    rw [if_neg (by rw [hf]; decide)] at hlay
    have h6 := u_store hfc hkC hkind hlay hi (hty v hv) hok.1 hok.2
    exact va_WputK hx hb (f := f) hown hl hi2 hst (by rw [q2]; exact h6) q1 q3 (by rw [hsl]; exact k2_hasslot (q4 v hv)) rfl rfl hd hfin
end AMS
