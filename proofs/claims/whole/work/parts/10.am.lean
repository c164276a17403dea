/-! an abstract machine over the decoded instructions: cells are arrays, objects, or constants; a frame's variables are a list -/
abbrev am_C : Type := (FieldType × vp_A) ⊕ ((Nat × List Value) ⊕ (Nat × Nat × (Nat → Int32)))
abbrev am_H : Type := Nat → Option am_C
abbrev am_V : Type := List (Option Value)
/-- pc, variables, stack, heap, next address, slots used -/
abbrev am_X : Type := Nat × am_V × List Value × am_H × Nat × Nat
abbrev am_O : Type := Option am_X
abbrev am_R : Type := (Option Value ⊕ Nat) × am_H × Nat × Nat
def am_n (pc : Nat) (lv : am_V) (st : List Value) (σ : am_H) (top sl : Nat) : am_O := some (pc, lv, st, σ, top, sl)
def am_get (lv : am_V) (i : Nat) : Option Value := match lv[i]? with
  | some (some v) => some v
  | _ => none
def am_up (σ : am_H) (a : Nat) (e : am_C) : am_H := fun q => if q = a then some e else σ q
def am_rv (v : Value) : Option (Option Nat) := match v with
  | .null => some none
  | .ref a => some (some a)
  | _ => none
def am_c1 (v : Value) : Bool := match v with
  | .long _ => false
  | .double _ => false
  | _ => true
def am_i1 (st : List Value) (k : Int32 → List Value → am_O) : am_O := match st with
  | .int x :: r => k x r
  | _ => none
def am_i2 (st : List Value) (k : Int32 → Int32 → List Value → am_O) : am_O := match st with
  | .int y :: .int x :: r => k x y r
  | _ => none
def am_l2 (st : List Value) (k : Int64 → Int64 → List Value → am_O) : am_O := match st with
  | .long y :: .long x :: r => k x y r
  | _ => none
def am_a1 (st : List Value) (k : Nat → List Value → am_O) : am_O := match st with
  | .ref a :: r => k a r
  | _ => none
def am_q1 (st : List Value) (k : Option Nat → List Value → am_O) : am_O := match st with
  | .ref a :: r => k (some a) r
  | .null :: r => k none r
  | _ => none
def am_q2 (st : List Value) (k : Option Nat → Option Nat → List Value → am_O) : am_O := match st with
  | .ref b :: .ref a :: r => k (some a) (some b) r
  | .ref b :: .null :: r => k none (some b) r
  | .null :: .ref a :: r => k (some a) none r
  | .null :: .null :: r => k none none r
  | _ => none
def am_v1 (st : List Value) (k : Value → List Value → am_O) : am_O := match st with
  | v :: r => if am_c1 v = true then k v r else none
  | _ => none
def am_v2 (st : List Value) (k : Value → Value → List Value → am_O) : am_O := match st with
  | v :: w :: r => if am_c1 v = true ∧ am_c1 w = true then k v w r else none
  | _ => none
def am_ia (st : List Value) (k : Int32 → Nat → List Value → am_O) : am_O := match st with
  | .int i :: .ref a :: r => k i a r
  | _ => none
def am_iia (st : List Value) (k : Int32 → Int32 → Nat → List Value → am_O) : am_O := match st with
  | .int x :: .int i :: .ref a :: r => k x i a r
  | _ => none
def am_lia (st : List Value) (k : Int64 → Int32 → Nat → List Value → am_O) : am_O := match st with
  | .long x :: .int i :: .ref a :: r => k x i a r
  | _ => none
def am_qia (st : List Value) (k : Option Nat → Int32 → Nat → List Value → am_O) : am_O := match st with
  | .ref x :: .int i :: .ref a :: r => k (some x) i a r
  | .null :: .int i :: .ref a :: r => k none i a r
  | _ => none
def am_va (st : List Value) (k : Value → Nat → List Value → am_O) : am_O := match st with
  | v :: .ref a :: r => k v a r
  | _ => none
theorem am_i1_inv {st : List Value} {k : Int32 → List Value → am_O} {o : am_X} (h : am_i1 st k = some o) : ∃ x r, st = .int x :: r ∧ k x r = some o := by
  unfold am_i1 at h
  split at h
  · exact ⟨_, _, rfl, h⟩
  · cases h
theorem am_i2_inv {st : List Value} {k : Int32 → Int32 → List Value → am_O} {o : am_X} (h : am_i2 st k = some o) : ∃ x y r, st = .int y :: .int x :: r ∧ k x y r = some o := by
  unfold am_i2 at h
  split at h
  · exact ⟨_, _, _, rfl, h⟩
  · cases h
theorem am_l2_inv {st : List Value} {k : Int64 → Int64 → List Value → am_O} {o : am_X} (h : am_l2 st k = some o) : ∃ x y r, st = .long y :: .long x :: r ∧ k x y r = some o := by
  unfold am_l2 at h
  split at h
  · exact ⟨_, _, _, rfl, h⟩
  · cases h
theorem am_a1_inv {st : List Value} {k : Nat → List Value → am_O} {o : am_X} (h : am_a1 st k = some o) : ∃ a r, st = .ref a :: r ∧ k a r = some o := by
  unfold am_a1 at h
  split at h
  · exact ⟨_, _, rfl, h⟩
  · cases h
theorem am_q1_inv {st : List Value} {k : Option Nat → List Value → am_O} {o : am_X} (h : am_q1 st k = some o) : ∃ a r, st = va_rf a :: r ∧ k a r = some o := by
  unfold am_q1 at h
  split at h
  · exact ⟨some _, _, rfl, h⟩
  · exact ⟨none, _, rfl, h⟩
  · cases h
theorem am_q2_inv {st : List Value} {k : Option Nat → Option Nat → List Value → am_O} {o : am_X} (h : am_q2 st k = some o) : ∃ x y r, st = va_rf y :: va_rf x :: r ∧ k x y r = some o := by
  unfold am_q2 at h
  split at h
  · exact ⟨some _, some _, _, rfl, h⟩
  · exact ⟨none, some _, _, rfl, h⟩
  · exact ⟨some _, none, _, rfl, h⟩
  · exact ⟨none, none, _, rfl, h⟩
  · cases h
theorem am_c1_cat {v : Value} (h : am_c1 v = true) : v.category = 1 := by
  cases v <;> first | rfl | cases h
theorem am_v1_inv {st : List Value} {k : Value → List Value → am_O} {o : am_X} (h : am_v1 st k = some o) : ∃ v r, st = v :: r ∧ v.category = 1 ∧ k v r = some o := by
  unfold am_v1 at h
  split at h
  · split at h
    · next hc => exact ⟨_, _, rfl, am_c1_cat hc, h⟩
    · cases h
  · cases h
theorem am_v2_inv {st : List Value} {k : Value → Value → List Value → am_O} {o : am_X} (h : am_v2 st k = some o) : ∃ v w r, st = v :: w :: r ∧ v.category = 1 ∧ w.category = 1 ∧ k v w r = some o := by
  unfold am_v2 at h
  split at h
  · split at h
    · next hc => exact ⟨_, _, _, rfl, am_c1_cat hc.1, am_c1_cat hc.2, h⟩
    · cases h
  · cases h
theorem am_ia_inv {st : List Value} {k : Int32 → Nat → List Value → am_O} {o : am_X} (h : am_ia st k = some o) : ∃ i a r, st = .int i :: .ref a :: r ∧ k i a r = some o := by
  unfold am_ia at h
  split at h
  · exact ⟨_, _, _, rfl, h⟩
  · cases h
theorem am_iia_inv {st : List Value} {k : Int32 → Int32 → Nat → List Value → am_O} {o : am_X} (h : am_iia st k = some o) : ∃ x i a r, st = .int x :: .int i :: .ref a :: r ∧ k x i a r = some o := by
  unfold am_iia at h
  split at h
  · exact ⟨_, _, _, _, rfl, h⟩
  · cases h
theorem am_lia_inv {st : List Value} {k : Int64 → Int32 → Nat → List Value → am_O} {o : am_X} (h : am_lia st k = some o) : ∃ x i a r, st = .long x :: .int i :: .ref a :: r ∧ k x i a r = some o := by
  unfold am_lia at h
  split at h
  · exact ⟨_, _, _, _, rfl, h⟩
  · cases h
theorem am_qia_inv {st : List Value} {k : Option Nat → Int32 → Nat → List Value → am_O} {o : am_X} (h : am_qia st k = some o) : ∃ x i a r, st = va_rf x :: .int i :: .ref a :: r ∧ k x i a r = some o := by
  unfold am_qia at h
  split at h
  · exact ⟨some _, _, _, _, rfl, h⟩
  · exact ⟨none, _, _, _, rfl, h⟩
  · cases h
theorem am_va_inv {st : List Value} {k : Value → Nat → List Value → am_O} {o : am_X} (h : am_va st k = some o) : ∃ v a r, st = v :: .ref a :: r ∧ k v a r = some o := by
  unfold am_va at h
  split at h
  · exact ⟨_, _, _, rfl, h⟩
  · cases h
def am_cb (cd : ClassFile.Cond) (x y : Int32) : Bool := match cd with
  | .eq => decide (x = y)
  | .ne => decide (¬ x = y)
  | .lt => decide (x < y)
  | .ge => decide (y ≤ x)
  | .gt => decide (y < x)
  | .le => decide (x ≤ y)
/-- what a field or an answer of that type takes as it is -/
def am_fv (ty : FieldType) (v : Value) : Bool := match ty, v with
  | .int, .int _ => true
  | .boolean, .int x => x == 0 || x == 1
  | .object _, .ref _ => true
  | .object _, .null => true
  | .array _, .ref _ => true
  | .array _, .null => true
  | _, _ => false
def am_fr (ty : FieldType) (v : Value) : Bool := match ty, v with
  | .char, .int x => decide (vp_nar .char x = x)
  | .byte, .int x => decide (vp_nar .byte x = x)
  | _, _ => am_fv ty v
/-- what an instruction that is no call of ours does; u, v: what its pool entry names -/
def am_step (cs : Nat → Value) (ft : Nat → Nat → FieldType) (df : Nat → List Value) (ns : Nat → Nat) (nm : Nat → String) (d pc : Nat) (lv : am_V) (st : List Value) (σ : am_H) (top sl : Nat) (i : Instr) (u v : Nat) : am_O := match i with
  | .aconst_null => am_n (pc + 1) lv (.null :: st) σ top sl
  | .iconst n => am_n (pc + 1) lv (.int (Int32.ofInt n) :: st) σ top sl
  | .bipush n => am_n (pc + 2) lv (.int (Int8.ofInt n).toInt32 :: st) σ top sl
  | .sipush n => am_n (pc + 3) lv (.int (Int16.ofInt n).toInt32 :: st) σ top sl
  | .ldc _ => am_n (pc + 2) lv (cs u :: st) σ top sl
  | .getstatic _ => am_n (pc + 3) lv (cs u :: st) σ top sl
  | .iload k => match am_get lv k with
    | some (.int x) => am_n (pc + 2) lv (.int x :: st) σ top sl
    | _ => none
  | .iload_n k => match am_get lv k with
    | some (.int x) => am_n (pc + 1) lv (.int x :: st) σ top sl
    | _ => none
  | .aload k => match am_get lv k with
    | some (.ref x) => am_n (pc + 2) lv (.ref x :: st) σ top sl
    | some .null => am_n (pc + 2) lv (.null :: st) σ top sl
    | _ => none
  | .aload_n k => match am_get lv k with
    | some (.ref x) => am_n (pc + 1) lv (.ref x :: st) σ top sl
    | some .null => am_n (pc + 1) lv (.null :: st) σ top sl
    | _ => none
  | .istore k => am_i1 st fun x r => if k < lv.length then am_n (pc + 2) (lv.set k (some (.int x))) r σ top sl else none
  | .istore_n k => am_i1 st fun x r => if (k : Nat) < lv.length then am_n (pc + 1) (lv.set k (some (.int x))) r σ top sl else none
  | .astore k => am_q1 st fun x r => if k < lv.length then am_n (pc + 2) (lv.set k (some (va_rf x))) r σ top sl else none
  | .astore_n k => am_q1 st fun x r => if (k : Nat) < lv.length then am_n (pc + 1) (lv.set k (some (va_rf x))) r σ top sl else none
  | .iinc k n => match am_get lv k with
    | some (.int x) => if k < lv.length then am_n (pc + 3) (lv.set k (some (.int (x + Int32.ofInt n)))) st σ top sl else none
    | _ => none
  | .iadd => am_i2 st fun x y r => am_n (pc + 1) lv (.int (x + y) :: r) σ top sl
  | .isub => am_i2 st fun x y r => am_n (pc + 1) lv (.int (x - y) :: r) σ top sl
  | .imul => am_i2 st fun x y r => am_n (pc + 1) lv (.int (x * y) :: r) σ top sl
  | .idiv => am_i2 st fun x y r => if y = 0 then none else am_n (pc + 1) lv (.int (x / y) :: r) σ top sl
  | .irem => am_i2 st fun x y r => if y = 0 then none else am_n (pc + 1) lv (.int (x - x / y * y) :: r) σ top sl
  | .iand => am_i2 st fun x y r => am_n (pc + 1) lv (.int (x &&& y) :: r) σ top sl
  | .ior => am_i2 st fun x y r => am_n (pc + 1) lv (.int (x ||| y) :: r) σ top sl
  | .ishl => am_i2 st fun x y r => am_n (pc + 1) lv (.int (x <<< (y &&& 31)) :: r) σ top sl
  | .ishr => am_i2 st fun x y r => am_n (pc + 1) lv (.int (x >>> (y &&& 31)) :: r) σ top sl
  | .i2c => am_i1 st fun x r => am_n (pc + 1) lv (.int (x.toUInt32 % 65536).toInt32 :: r) σ top sl
  | .i2l => am_i1 st fun x r => am_n (pc + 1) lv (.long x.toInt64 :: r) σ top sl
  | .lcmp => am_l2 st fun x y r => am_n (pc + 1) lv (.int (lg_cmp x y) :: r) σ top sl
  | .dup => am_v1 st fun x r => am_n (pc + 1) lv (x :: x :: r) σ top sl
  | .pop => am_v1 st fun _ r => am_n (pc + 1) lv r σ top sl
  | .dup_x1 => am_v2 st fun x y r => am_n (pc + 1) lv (x :: y :: x :: r) σ top sl
  | .dup2 => am_v2 st fun x y r => am_n (pc + 1) lv (x :: y :: x :: y :: r) σ top sl
  | .goto _ => am_n u lv st σ top sl
  | .ifCond cd _ => am_i1 st fun x r => if am_cb cd x 0 = true then am_n u lv r σ top sl else am_n (pc + 3) lv r σ top sl
  | .if_icmp cd _ => am_i2 st fun x y r => if am_cb cd x y = true then am_n u lv r σ top sl else am_n (pc + 3) lv r σ top sl
  | .if_acmp .eq _ => am_q2 st fun x y r => if x = y then am_n u lv r σ top sl else am_n (pc + 3) lv r σ top sl
  | .if_acmp .ne _ => am_q2 st fun x y r => if x = y then am_n (pc + 3) lv r σ top sl else am_n u lv r σ top sl
  | .ifnull _ => am_q1 st fun x r => match x with
    | none => am_n u lv r σ top sl
    | some _ => am_n (pc + 3) lv r σ top sl
  | .ifnonnull _ => am_q1 st fun x r => match x with
    | none => am_n (pc + 3) lv r σ top sl
    | some _ => am_n u lv r σ top sl
  | .tableswitch dflt lo hi offs => am_i1 st fun x r =>
    if x.toInt < lo ∨ hi < x.toInt then (if 0 ≤ (pc : Int) + dflt then am_n ((pc : Int) + dflt).toNat lv r σ top sl else none)
    else match offs[(x.toInt - lo).toNat]? with
      | some off => if 0 ≤ (pc : Int) + off then am_n ((pc : Int) + off).toNat lv r σ top sl else none
      | none => none
  | .lookupswitch dflt ps => am_i1 st fun x r =>
    if (ps.toList.zip (ps.toList.drop 1)).all (fun (a, next) => a.1 < next.1) = true ∧ 0 ≤ (pc : Int) + Op.lookupswitch.offset ps.toList dflt x.toInt then am_n ((pc : Int) + Op.lookupswitch.offset ps.toList dflt x.toInt).toNat lv r σ top sl else none
  | .getfield _ => am_a1 st fun a r => match σ a with
    | some (.inr (.inl (c, fs))) => if c = u ∧ ¬ u = 50 then (match fs[v]? with
      | some w => am_n (pc + 3) lv (w :: r) σ top sl
      | none => none) else none
    | some (.inr (.inr (1, av, _))) => if u = 50 then (if v = 0 then am_n (pc + 3) lv (.ref av :: r) σ top sl else am_n (pc + 3) lv (.int 0 :: r) σ top sl) else none
    | _ => none
  | .putfield _ => am_va st fun w a r => match σ a with
    | some (.inr (.inl (c, fs))) => if c = u ∧ v < fs.length ∧ am_fv (ft u v) w = true then am_n (pc + 3) lv r (am_up σ a (.inr (.inl (c, fs.set v w)))) top sl else none
    | _ => none
  | .new _ => am_n (pc + 3) lv (.ref top :: st) (am_up σ top (.inr (.inl (u, df u)))) (top + 1) (sl + ns u)
  | .newarray at_ => am_i1 st fun n r => if n < 0 ∨ 100000 < n.toNatClampNeg then none else match at_ with
    | .int => am_n (pc + 2) lv (.ref top :: r) (am_up σ top (.inl (.int, n.toNatClampNeg, .inl fun _ => 0))) (top + 1) (sl + n.toNatClampNeg)
    | .char => am_n (pc + 2) lv (.ref top :: r) (am_up σ top (.inl (.char, n.toNatClampNeg, .inl fun _ => 0))) (top + 1) (sl + n.toNatClampNeg)
    | .boolean => am_n (pc + 2) lv (.ref top :: r) (am_up σ top (.inl (.boolean, n.toNatClampNeg, .inl fun _ => 0))) (top + 1) (sl + n.toNatClampNeg)
    | .long => am_n (pc + 2) lv (.ref top :: r) (am_up σ top (.inl (.long, n.toNatClampNeg, .inr (.inl fun _ => 0)))) (top + 1) (sl + n.toNatClampNeg)
    | _ => none
  | .anewarray _ => am_i1 st fun n r => if n < 0 ∨ 100000 < n.toNatClampNeg then none else
    am_n (pc + 3) lv (.ref top :: r) (am_up σ top (.inl (.object (nm u), n.toNatClampNeg, .inr (.inr (.inr (.inr fun _ => none)))))) (top + 1) (sl + n.toNatClampNeg)
  | .arraylength => am_a1 st fun a r => match σ a with
    | some (.inl (_, n, _)) => am_n (pc + 1) lv (.int (Int32.ofNat n) :: r) σ top sl
    | some (.inr (.inr (0, n, _))) => am_n (pc + 1) lv (.int (Int32.ofNat n) :: r) σ top sl
    | some (.inr (.inr (2, n, _))) => am_n (pc + 1) lv (.int (Int32.ofNat n) :: r) σ top sl
    | _ => none
  | .iaload => am_ia st fun i a r => match σ a with
    | some (.inl (.int, n, .inl f)) => if i < 0 ∨ n ≤ i.toNatClampNeg then none else am_n (pc + 1) lv (.int (f i.toNatClampNeg) :: r) σ top sl
    | some (.inr (.inr (0, n, f))) => if i < 0 ∨ n ≤ i.toNatClampNeg then none else am_n (pc + 1) lv (.int (f i.toNatClampNeg) :: r) σ top sl
    | _ => none
  | .baload => am_ia st fun i a r => match σ a with
    | some (.inl (.boolean, n, .inl f)) => if i < 0 ∨ n ≤ i.toNatClampNeg then none else am_n (pc + 1) lv (.int (f i.toNatClampNeg) :: r) σ top sl
    | some (.inr (.inr (2, n, f))) => if i < 0 ∨ n ≤ i.toNatClampNeg then none else am_n (pc + 1) lv (.int (f i.toNatClampNeg) :: r) σ top sl
    | _ => none
  | .caload => am_ia st fun i a r => match σ a with
    | some (.inl (.char, n, .inl f)) => if i < 0 ∨ n ≤ i.toNatClampNeg then none else am_n (pc + 1) lv (.int (f i.toNatClampNeg) :: r) σ top sl
    | _ => none
  | .laload => am_ia st fun i a r => match σ a with
    | some (.inl (.long, n, .inr (.inl f))) => if i < 0 ∨ n ≤ i.toNatClampNeg then none else am_n (pc + 1) lv (.long (f i.toNatClampNeg) :: r) σ top sl
    | _ => none
  | .aaload => am_ia st fun i a r => match σ a with
    | some (.inl (.object _, n, .inr (.inr (.inr (.inr f))))) => if i < 0 ∨ n ≤ i.toNatClampNeg then none else am_n (pc + 1) lv (va_rf (f i.toNatClampNeg) :: r) σ top sl
    | _ => none
  | .iastore => am_iia st fun x i a r => match σ a with
    | some (.inl (.int, n, .inl f)) => if i < 0 ∨ n ≤ i.toNatClampNeg then none else am_n (pc + 1) lv r (am_up σ a (.inl (.int, n, .inl (upd f i.toNatClampNeg x)))) top sl
    | _ => none
  | .bastore => am_iia st fun x i a r => match σ a with
    | some (.inl (.boolean, n, .inl f)) => if i < 0 ∨ n ≤ i.toNatClampNeg then none else am_n (pc + 1) lv r (am_up σ a (.inl (.boolean, n, .inl (upd f i.toNatClampNeg (vp_nar .boolean x))))) top sl
    | _ => none
  | .castore => am_iia st fun x i a r => match σ a with
    | some (.inl (.char, n, .inl f)) => if i < 0 ∨ n ≤ i.toNatClampNeg then none else am_n (pc + 1) lv r (am_up σ a (.inl (.char, n, .inl (upd f i.toNatClampNeg (vp_nar .char x))))) top sl
    | _ => none
  | .lastore => am_lia st fun x i a r => match σ a with
    | some (.inl (.long, n, .inr (.inl f))) => if i < 0 ∨ n ≤ i.toNatClampNeg then none else am_n (pc + 1) lv r (am_up σ a (.inl (.long, n, .inr (.inl (vp_updL f i.toNatClampNeg x))))) top sl
    | _ => none
  | .aastore => am_qia st fun x i a r => match σ a with
    | some (.inl (.object C, n, .inr (.inr (.inr (.inr f))))) => if i < 0 ∨ n ≤ i.toNatClampNeg then none else (match x with
      | none => am_n (pc + 1) lv r (am_up σ a (.inl (.object C, n, .inr (.inr (.inr (.inr (va_up f i.toNatClampNeg none))))))) top sl
      | some b => match σ b with
        | some (.inr (.inl (c, _))) => if nm c = C then am_n (pc + 1) lv r (am_up σ a (.inl (.object C, n, .inr (.inr (.inr (.inr (va_up f i.toNatClampNeg (some b)))))))) top sl else none
        | _ => none)
    | _ => none
  | .invokespecial _ => if d = 0 ∨ ¬ u = 1000 then none else am_a1 st fun _ r => if (r.map fun w => w.category).sum ≤ 8 then am_n (pc + 3) lv r σ top sl else none
  | _ => none
/-- 0: an instruction that goes on, 1: a call, 2: an end, 3: an exception is made and thrown -/
def am_kind (i : Instr) (u : Nat) : Nat := match i with
  | .invokestatic _ => 1
  | .invokevirtual _ => 1
  | .invokespecial _ => if u = 1000 then 0 else 1
  | .new _ => if 12 ≤ u then 3 else 0
  | .ireturn => 2
  | .areturn => 2
  | .return_ => 2
  | .athrow => 2
  | _ => 0
/-- a call's arguments, and the rest of the stack -/
def am_call (mc : Nat → Nat) (d : Nat) (st : List Value) (σ : am_H) (i : Instr) (u v : Nat) : Option (List Value × List Value) := match i with
  | .invokestatic _ => if d = 0 ∨ st.length < v then none else some ((st.take v).reverse, st.drop v)
  | .invokespecial _ => if d = 0 then none else match st.drop v with
    | .ref b :: r => some (.ref b :: (st.take v).reverse, r)
    | _ => none
  | .invokevirtual _ => if d = 0 then none else match st.drop v with
    | .ref b :: r => match σ b with
      | some (.inr (.inl (c, _))) => if c = mc u then some (.ref b :: (st.take v).reverse, r) else none
      | some (.inr (.inr (1, _, _))) => if mc u = 50 then some (.ref b :: (st.take v).reverse, r) else none
      | _ => none
    | _ => none
  | _ => none
/-- a method's end: its answer, or the address of what it throws -/
def am_end (rt : FieldType) (st : List Value) (i : Instr) : Option (Option Value ⊕ Nat) := match i with
  | .ireturn => match st with
    | [.int x] => if am_fr rt (.int x) = true then some (.inl (some (.int x))) else none
    | _ => none
  | .areturn => match st with
    | [.ref a] => if am_fr rt (.ref a) = true then some (.inl (some (.ref a))) else none
    | [.null] => if am_fr rt .null = true then some (.inl (some .null)) else none
    | _ => none
  | .return_ => match st with
    | [] => some (.inl none)
    | _ => none
  | _ => none
/-- the library's members that are reached: the smaller of two, the copying of letters, an exception's start -/
def am_bi (u : Nat) (as : List Value) (σ : am_H) : Option (Option Value × am_H) := match u, as with
  | 1003, [.int x, .int y] => some (some (.int (if y < x then y else x)), σ)
  | 1004, [.ref a, .int sp, .ref b, .int dp, .int n] => match σ a, σ b with
    | some (.inl (.char, n0, .inl f)), some (.inl (.char, n1, .inl g)) =>
      if sp < 0 ∨ dp < 0 ∨ n < 0 ∨ n0 < sp.toNatClampNeg + n.toNatClampNeg ∨ n1 < dp.toNatClampNeg + n.toNatClampNeg then none
      else some (none, am_up σ b (.inl (.char, n1, .inl (va_cpy f g sp.toNatClampNeg dp.toNatClampNeg n.toNatClampNeg))))
    | _, _ => none
  | _, _ => none
/-- tables: instructions, variables of a method, what it answers, a field's type, an object's fields at first, its slots, a class's name, a method's class, handlers -/
abbrev am_T : Type := (Nat → Nat → Option (Instr × Nat × Nat)) × (Nat → Nat) × (Nat → FieldType) × (Nat → Nat → FieldType) × (Nat → List Value) × (Nat → Nat) × (Nat → String) × (Nat → Nat) × (Nat → List ((Nat × Nat × Nat × Nat) × Nat))
def am_ent (ml : Nat) (as : List Value) : am_V := as.map some ++ List.replicate (ml - as.length) none
/-- a method's handlers: (from, to, handler, entry), class -/
def am_hs (t : am_T) (y : Nat) : List ((Nat × Nat × Nat × Nat) × Nat) := t.2.2.2.2.2.2.2.2 y
def am_hw (c pc : Nat) : List ((Nat × Nat × Nat × Nat) × Nat) → Option Nat
  | [] => none
  | x :: r => if x.1.1 ≤ pc ∧ pc < x.1.2.1 then (if c = x.2 then some x.1.2.2.1 else am_hw c pc r) else am_hw c pc r
/-- where what the callee u threw is caught -/
def am_hd (t : am_T) (y u pc : Nat) (σ : am_H) (a : Nat) : Option Nat := match am_hs t u, σ a with
  | [], some (.inr (.inl (c, _))) => if 12 ≤ c then am_hw c pc (am_hs t y) else none
  | _, _ => none
/-- n: fuel; d: frames that may be laid on this one -/
def am_run (t : am_T) (cs : Nat → Value) : Nat → Nat → Nat → Nat → am_V → List Value → am_H → Nat → Nat → Option am_R
  | 0, _, _, _, _, _, _, _, _ => none
  | n + 1, d, y, pc, lv, st, σ, top, sl =>
    match t.1 y pc with
    | none => none
    | some (i, u, v) =>
      match am_kind i u with
      | 0 => match am_step cs t.2.2.2.1 t.2.2.2.2.1 t.2.2.2.2.2.1 t.2.2.2.2.2.2.1 d pc lv st σ top sl i u v with
        | none => none
        | some (pc', lv', st', σ', top', sl') => am_run t cs n d y pc' lv' st' σ' top' sl'
      | 1 => match am_call t.2.2.2.2.2.2.2.1 d st σ i u v with
        | none => none
        | some (as, rest) =>
          if (rest.map fun w => w.category).sum ≤ 8 then
            if 1000 < u then
              match am_bi u as σ with
              | none => none
              | some (r, σ1) => am_run t cs n d y (pc + 3) lv (r.toList ++ rest) σ1 top sl
            else if as.length ≤ t.2.1 u ∧ as.all am_c1 = true then
              match am_run t cs n (d - 1) u 0 (am_ent (t.2.1 u) as) [] σ top sl with
              | none => none
              | some (.inl r, σ1, top1, sl1) => am_run t cs n d y (pc + 3) lv (r.toList ++ rest) σ1 top1 sl1
              | some (.inr a, σ1, top1, sl1) => match am_hd t y u pc σ1 a with
                | some h => am_run t cs n d y h lv [.ref a] σ1 top1 sl1
                | none => none
            else none
          else none
      | 3 => if 6 ≤ d ∧ (st.map fun w => w.category).sum ≤ 8 then some (.inr top, am_up σ top (.inr (.inl (u, []))), top + 1, sl + t.2.2.2.2.2.1 u) else none
      | _ => match am_end (t.2.2.1 y) st i with
        | none => none
        | some r => some (r, σ, top, sl)
