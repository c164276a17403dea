def am_len (i : Instr) : Nat := match i with
  | .aload _ => 2
  | .iload _ => 2
  | .istore _ => 2
  | .astore _ => 2
  | .bipush _ => 2
  | .ldc _ => 2
  | .newarray _ => 2
  | .sipush _ => 3
  | .iinc _ _ => 3
  | .goto _ => 3
  | .ifCond _ _ => 3
  | .if_icmp _ _ => 3
  | .if_acmp _ _ => 3
  | .ifnull _ => 3
  | .ifnonnull _ => 3
  | .getfield _ => 3
  | .putfield _ => 3
  | .getstatic _ => 3
  | .new _ => 3
  | .anewarray _ => 3
  | .invokespecial _ => 3
  | .invokestatic _ => 3
  | .invokevirtual _ => 3
  | _ => 1
def am_sw (i : Instr) : Bool := match i with
  | .tableswitch _ _ _ _ => true
  | .lookupswitch _ _ => true
  | _ => false
def am_dec (cc : ByteArray) (pc : Nat) (i : Instr) : Prop := (am_sw i = true ∧ ∃ len, decode cc pc = .ok (i, len)) ∨ (am_sw i = false ∧ decode cc pc = .ok (i, am_len i))
theorem am_dec1 {cc : ByteArray} {pc : Nat} {i : Instr} (h : am_dec cc pc i) (hs : am_sw i = false) : decode cc pc = .ok (i, am_len i) := by
  rcases h with ⟨h, -⟩ | ⟨-, h⟩
  · rw [hs] at h
    cases h
  · exact h
theorem am_dec2 {cc : ByteArray} {pc : Nat} {i : Instr} (h : am_dec cc pc i) (hs : am_sw i = true) : ∃ len, decode cc pc = .ok (i, len) := by
  rcases h with ⟨-, h⟩ | ⟨h, -⟩
  · exact h
  · rw [hs] at h
    cases h
theorem am_n_inv {pc : Nat} {lv : am_V} {st : List Value} {σ : am_H} {top sl : Nat} {x : am_X} (h : am_n pc lv st σ top sl = some x) : x = (pc, lv, st, σ, top, sl) := (Option.some.inj h).symm
/-- what the tables say of the instruction at pc, whose pool entry u, v name -/
def am_fact (cs : Nat → Value) (ft : Nat → Nat → FieldType) (df : Nat → List Value) (ns : Nat → Nat) (nm : Nat → String) (cl : List vw_C) (b0 : Nat) (s : State) (args : Array Value) (meth : Method) (own : String) (pc : Nat) (i : Instr) (u v : Nat) : Prop := match i with
  | .ldc idx => ∃ tx a, cs u = .ref a ∧ vk_R own idx tx a s
  | .getstatic idx => ∃ C n d, va_Z C n d (cs u) (fun q => b0 ≤ q) s s.heap ∧ (Cond.fieldLink own idx C n d).before args s = true
  | .goto off => (pc : Int) + off = (u : Int)
  | .ifCond _ off => (pc : Int) + off = (u : Int)
  | .if_icmp _ off => (pc : Int) + off = (u : Int)
  | .if_acmp _ off => (pc : Int) + off = (u : Int)
  | .ifnull off => (pc : Int) + off = (u : Int)
  | .ifnonnull off => (pc : Int) + off = (u : Int)
  | .getfield idx => if u = 50 then (if v = 0 then (Cond.fieldLink own idx "java/lang/String" "value" "[B").before args s = true else (Cond.fieldLink own idx "java/lang/String" "coder" "B").before args s = true) else ∃ C T N, cl[u]? = some (C, T, N) ∧ (∀ w ∈ u_ws C T N, w.before args s = true) ∧ (∀ k, k < N → (T k).1 = C) ∧ v < N ∧ ((Cond.fieldLink own idx C (T v).2.1 (T v).2.2.1).before args s = true ∨ ∃ host, (Cond.fieldLinkNest own idx C (T v).2.1 (T v).2.2.1 host).before args s = true)
  | .putfield idx => ∃ C T N, cl[u]? = some (C, T, N) ∧ (∀ w ∈ u_ws C T N, w.before args s = true) ∧ (∀ k, k < N → (T k).1 = C) ∧ v < N ∧ (∀ k, k < N → parseFieldDescriptor (T k).2.2.1 = some (ft u k)) ∧ (∀ a, a < N → ∀ b, b < N → a ≠ b → (T a).2.1 ≠ (T b).2.1) ∧
      ((Cond.fieldLink own idx C (T v).2.1 (T v).2.2.1).before args s = true ∧ ((T v).2.2.2 = false ∨ ((T v).2.2.2 = true ∧ meth.name = "<init>" ∧ own = C)) ∨ (T v).2.2.2 = false ∧ ∃ host, (Cond.fieldLinkNest own idx C (T v).2.1 (T v).2.2.1 host).before args s = true)
  | .new idx => ∃ C T N, cl[u]? = some (C, T, N) ∧ (∀ w ∈ u_ws C T N, w.before args s = true) ∧ (∀ k, k < N → parseFieldDescriptor (T k).2.2.1 = some (ft u k)) ∧ (Cond.classLink own idx C).before args s = true ∧ (Cond.instantiable C (ns u)).before args s = true ∧ (Cond.initialized C).before args s = true ∧ (∀ j, j < N → defaultValue (ft u j) = vp_V (df u) j) ∧ (df u).length = N
  | .newarray at_ => (Cond.arrayClass (newarray.typeOf at_)).before args s = true
  | .anewarray idx => (Cond.classLink own idx (nm u)).before args s = true ∧ va_AO (nm u) s
  | .invokespecial idx => u = 1000 → (Cond.methodLink own idx objectInit).before args s = true ∧ (Cond.instanceMethod objectInit).before args s = true ∧ (Cond.code objectInit ⟨#[0xb1]⟩ 1 none).before args s = true
  | _ => True
section AMT
variable {p : Program} {l : Launch} {e : Env} {R : Room} {s : State} {m : MethodId} {args : Array Value} {below : List Frame} {meth : Method} {c : Code} {Q : State → Prop}
variable {cc : ByteArray} {D : va_G} {cl : List vw_C} {b0 nL c0 s0 : Nat} {pc top sl : Nat} {lv : am_V} {st rest : List Value} {σ : am_H}
set_option maxHeartbeats 4000000 in
theorem am_step_W {cs : Nat → Value} {ft : Nat → Nat → FieldType} {df : Nat → List Value} {ns : Nat → Nat} {nm : Nat → String} {d : Nat} {own : String} {i : Instr} {u v : Nat} {x : am_X}
    (hx : p.tables.exec = Jvm.exec) (hb : c.code = cc) (hml : c.maxLocals = nL) (hown : s.vm.findClass own = some m.cls) (hnm : ∀ k r, cl[k]? = some r → r.1 = nm k) (hfr : d ≤ R.frames) (hlo : 64 * d ≤ R.locals)
    (hd : am_dec cc pc i) (hf : am_fact cs ft df ns nm cl b0 s args meth own pc i u v) (h : am_step cs ft df ns nm d pc lv st σ top sl i u v = some x) (hr1 : x.2.2.2.2.1 ≤ R.cells + c0) (hr2 : x.2.2.2.2.2 ≤ R.slots + s0)
    (k : am_W p l e R s m args below meth c Q D cl b0 nL c0 s0 (x.1) (x.2.1) (x.2.2.1) (x.2.2.2.1) (x.2.2.2.2.1) (x.2.2.2.2.2)) : am_W p l e R s m args below meth c Q D cl b0 nL c0 s0 pc lv st σ top sl := by
  cases i with
  | aconst_null => obtain rfl := am_n_inv h; exact am_w_null hx hb (am_dec1 hd rfl) k
  | iconst n => obtain rfl := am_n_inv h; exact am_w_iconst hx hb (am_dec1 hd rfl) k
  | bipush n => obtain rfl := am_n_inv h; exact am_w_bipush hx hb (am_dec1 hd rfl) k
  | sipush n => obtain rfl := am_n_inv h; exact am_w_sipush hx hb (am_dec1 hd rfl) k
  | ldc idx =>
    obtain rfl := am_n_inv h
    obtain ⟨tx, a, h1, h2⟩ := hf
    dsimp only at k
    rw [h1] at k
    exact am_w_ldc hx hb hown h2 (am_dec1 hd rfl) k
  | getstatic idx =>
    obtain rfl := am_n_inv h
    obtain ⟨C, n, d, h1, h2⟩ := hf
    exact am_w_gets hx hb hown h1 h2 (am_dec1 hd rfl) k
  | iload j =>
    have h : (match am_get lv j with | some (.int x) => am_n (pc + 2) lv (.int x :: st) σ top sl | _ => none) = some x := h
    split at h
    · next y hg => obtain rfl := am_n_inv h; exact am_w_iload hx hb (am_dec1 hd rfl) hg k
    · cases h
  | iload_n j =>
    have h : (match am_get lv j with | some (.int x) => am_n (pc + 1) lv (.int x :: st) σ top sl | _ => none) = some x := h
    split at h
    · next y hg => obtain rfl := am_n_inv h; exact am_w_iload_n hx hb (am_dec1 hd rfl) hg k
    · cases h
  | aload j =>
    have h : (match am_get lv j with | some (.ref x) => am_n (pc + 2) lv (.ref x :: st) σ top sl | some .null => am_n (pc + 2) lv (.null :: st) σ top sl | _ => none) = some x := h
    split at h
    · next y hg => obtain rfl := am_n_inv h; exact am_w_aload (x := some y) hx hb (am_dec1 hd rfl) hg k
    · next hg => obtain rfl := am_n_inv h; exact am_w_aload (x := none) hx hb (am_dec1 hd rfl) hg k
    · cases h
  | aload_n j =>
    have h : (match am_get lv j with | some (.ref x) => am_n (pc + 1) lv (.ref x :: st) σ top sl | some .null => am_n (pc + 1) lv (.null :: st) σ top sl | _ => none) = some x := h
    split at h
    · next y hg => obtain rfl := am_n_inv h; exact am_w_aload_n (x := some y) hx hb (am_dec1 hd rfl) hg k
    · next hg => obtain rfl := am_n_inv h; exact am_w_aload_n (x := none) hx hb (am_dec1 hd rfl) hg k
    · cases h
  | istore j =>
    (try dsimp only [am_step] at h); have h9 := am_i1_inv h; clear h; obtain ⟨y, r, rfl, h⟩ := h9
    split at h
    · next hj => obtain rfl := am_n_inv h; exact am_w_istore hx hb (am_dec1 hd rfl) hj k
    · cases h
  | istore_n j =>
    (try dsimp only [am_step] at h); have h9 := am_i1_inv h; clear h; obtain ⟨y, r, rfl, h⟩ := h9
    split at h
    · next hj => obtain rfl := am_n_inv h; exact am_w_istore_n hx hb (am_dec1 hd rfl) hj k
    · cases h
  | astore j =>
    (try dsimp only [am_step] at h); have h9 := am_q1_inv h; clear h; obtain ⟨y, r, rfl, h⟩ := h9
    split at h
    · next hj => obtain rfl := am_n_inv h; exact am_w_astore hx hb (am_dec1 hd rfl) hj k
    · cases h
  | astore_n j =>
    (try dsimp only [am_step] at h); have h9 := am_q1_inv h; clear h; obtain ⟨y, r, rfl, h⟩ := h9
    split at h
    · next hj => obtain rfl := am_n_inv h; exact am_w_astore_n hx hb (am_dec1 hd rfl) hj k
    · cases h
  | iinc j n =>
    have h : (match am_get lv j with | some (.int x) => if j < lv.length then am_n (pc + 3) (lv.set j (some (.int (x + Int32.ofInt n)))) st σ top sl else none | _ => none) = some x := h
    split at h
    · next y hg =>
      rw [if_pos (am_get_lt hg)] at h
      obtain rfl := am_n_inv h
      exact am_w_iinc hx hb (am_dec1 hd rfl) hg k
    · cases h
  | iadd => (try dsimp only [am_step] at h); have h9 := am_i2_inv h; clear h; obtain ⟨y, z, r, rfl, h⟩ := h9; obtain rfl := am_n_inv h; exact am_w_iadd hx hb (am_dec1 hd rfl) k
  | isub => (try dsimp only [am_step] at h); have h9 := am_i2_inv h; clear h; obtain ⟨y, z, r, rfl, h⟩ := h9; obtain rfl := am_n_inv h; exact am_w_isub hx hb (am_dec1 hd rfl) k
  | imul => (try dsimp only [am_step] at h); have h9 := am_i2_inv h; clear h; obtain ⟨y, z, r, rfl, h⟩ := h9; obtain rfl := am_n_inv h; exact am_w_imul hx hb (am_dec1 hd rfl) k
  | iand => (try dsimp only [am_step] at h); have h9 := am_i2_inv h; clear h; obtain ⟨y, z, r, rfl, h⟩ := h9; obtain rfl := am_n_inv h; exact am_w_iand hx hb (am_dec1 hd rfl) k
  | ior => (try dsimp only [am_step] at h); have h9 := am_i2_inv h; clear h; obtain ⟨y, z, r, rfl, h⟩ := h9; obtain rfl := am_n_inv h; exact am_w_ior hx hb (am_dec1 hd rfl) k
  | ishl => (try dsimp only [am_step] at h); have h9 := am_i2_inv h; clear h; obtain ⟨y, z, r, rfl, h⟩ := h9; obtain rfl := am_n_inv h; exact am_w_ishl hx hb (am_dec1 hd rfl) k
  | ishr => (try dsimp only [am_step] at h); have h9 := am_i2_inv h; clear h; obtain ⟨y, z, r, rfl, h⟩ := h9; obtain rfl := am_n_inv h; exact am_w_ishr hx hb (am_dec1 hd rfl) k
  | idiv =>
    (try dsimp only [am_step] at h); have h9 := am_i2_inv h; clear h; obtain ⟨y, z, r, rfl, h⟩ := h9
    split at h
    · cases h
    · next hz => obtain rfl := am_n_inv h; exact am_w_idiv hx hb (am_dec1 hd rfl) hz k
  | irem =>
    (try dsimp only [am_step] at h); have h9 := am_i2_inv h; clear h; obtain ⟨y, z, r, rfl, h⟩ := h9
    split at h
    · cases h
    · next hz => obtain rfl := am_n_inv h; exact am_w_irem hx hb (am_dec1 hd rfl) hz k
  | i2c => (try dsimp only [am_step] at h); have h9 := am_i1_inv h; clear h; obtain ⟨y, r, rfl, h⟩ := h9; obtain rfl := am_n_inv h; exact am_w_i2c hx hb (am_dec1 hd rfl) k
  | i2l => (try dsimp only [am_step] at h); have h9 := am_i1_inv h; clear h; obtain ⟨y, r, rfl, h⟩ := h9; obtain rfl := am_n_inv h; exact am_w_i2l hx hb (am_dec1 hd rfl) k
  | lcmp => (try dsimp only [am_step] at h); have h9 := am_l2_inv h; clear h; obtain ⟨y, z, r, rfl, h⟩ := h9; obtain rfl := am_n_inv h; exact am_w_lcmp hx hb (am_dec1 hd rfl) k
  | dup => (try dsimp only [am_step] at h); have h9 := am_v1_inv h; clear h; obtain ⟨y, r, rfl, hc, h⟩ := h9; obtain rfl := am_n_inv h; exact am_w_dup hx hb (am_dec1 hd rfl) hc k
  | pop => (try dsimp only [am_step] at h); have h9 := am_v1_inv h; clear h; obtain ⟨y, r, rfl, hc, h⟩ := h9; obtain rfl := am_n_inv h; exact am_w_pop hx hb (am_dec1 hd rfl) hc k
  | dup_x1 => (try dsimp only [am_step] at h); have h9 := am_v2_inv h; clear h; obtain ⟨y, z, r, rfl, hc, hc2, h⟩ := h9; obtain rfl := am_n_inv h; exact am_w_dup_x1 hx hb (am_dec1 hd rfl) hc hc2 k
  | dup2 => (try dsimp only [am_step] at h); have h9 := am_v2_inv h; clear h; obtain ⟨y, z, r, rfl, hc, hc2, h⟩ := h9; obtain rfl := am_n_inv h; exact am_w_dup2 hx hb (am_dec1 hd rfl) hc hc2 k
  | goto off => obtain rfl := am_n_inv h; exact am_w_goto hx hb (am_dec1 hd rfl) hf k
  | ifCond cd off =>
    (try dsimp only [am_step] at h); have h9 := am_i1_inv h; clear h; obtain ⟨y, r, rfl, h⟩ := h9
    split at h
    · next hc => obtain rfl := am_n_inv h; exact am_w_if hx hb (am_dec1 hd rfl) hf (fun _ => k) (fun z => absurd hc z)
    · next hc => obtain rfl := am_n_inv h; exact am_w_if hx hb (am_dec1 hd rfl) hf (fun z => absurd z hc) (fun _ => k)
  | if_icmp cd off =>
    (try dsimp only [am_step] at h); have h9 := am_i2_inv h; clear h; obtain ⟨y, z, r, rfl, h⟩ := h9
    split at h
    · next hc => obtain rfl := am_n_inv h; exact am_w_icmp hx hb (am_dec1 hd rfl) hf (fun _ => k) (fun z => absurd hc z)
    · next hc => obtain rfl := am_n_inv h; exact am_w_icmp hx hb (am_dec1 hd rfl) hf (fun z => absurd z hc) (fun _ => k)
  | if_acmp cd off =>
    cases cd with
    | eq =>
      (try dsimp only [am_step] at h); have h9 := am_q2_inv h; clear h; obtain ⟨y, z, r, rfl, h⟩ := h9
      split at h
      · next hc => obtain rfl := am_n_inv h; exact am_w_acmp_eq hx hb (am_dec1 hd rfl) hf (fun _ => k) (fun z => absurd hc z)
      · next hc => obtain rfl := am_n_inv h; exact am_w_acmp_eq hx hb (am_dec1 hd rfl) hf (fun z => absurd z hc) (fun _ => k)
    | ne =>
      (try dsimp only [am_step] at h); have h9 := am_q2_inv h; clear h; obtain ⟨y, z, r, rfl, h⟩ := h9
      split at h
      · next hc => obtain rfl := am_n_inv h; exact am_w_acmp_ne hx hb (am_dec1 hd rfl) hf (fun z => absurd hc z) (fun _ => k)
      · next hc => obtain rfl := am_n_inv h; exact am_w_acmp_ne hx hb (am_dec1 hd rfl) hf (fun _ => k) (fun z => absurd z hc)
  | ifnull off =>
    (try dsimp only [am_step] at h); have h9 := am_q1_inv h; clear h; obtain ⟨y, r, rfl, h⟩ := h9
    cases y with
    | none => obtain rfl := am_n_inv h; exact am_w_ifnull hx hb (am_dec1 hd rfl) hf (fun _ => k) (fun a z => by cases z)
    | some a => obtain rfl := am_n_inv h; exact am_w_ifnull hx hb (am_dec1 hd rfl) hf (fun z => by cases z) (fun _ _ => k)
  | ifnonnull off =>
    (try dsimp only [am_step] at h); have h9 := am_q1_inv h; clear h; obtain ⟨y, r, rfl, h⟩ := h9
    cases y with
    | none => obtain rfl := am_n_inv h; exact am_w_ifnonnull hx hb (am_dec1 hd rfl) hf (fun a z => by cases z) (fun _ => k)
    | some a => obtain rfl := am_n_inv h; exact am_w_ifnonnull hx hb (am_dec1 hd rfl) hf (fun _ _ => k) (fun z => by cases z)
  | tableswitch dflt lo hi offs =>
    (try dsimp only [am_step] at h); have h9 := am_i1_inv h; clear h; obtain ⟨y, r, rfl, h⟩ := h9
    obtain ⟨len, hd⟩ := am_dec2 hd rfl
    split at h
    · next h0 =>
      split at h
      · next h1 => obtain rfl := am_n_inv h; exact am_w_tsw hx hb hd h0 h1 k
      · cases h
    · next h0 =>
      split at h
      · next off ho =>
        split at h
        · next h1 => obtain rfl := am_n_inv h; exact am_w_tsw2 hx hb hd h0 ho h1 k
        · cases h
      · cases h
  | lookupswitch dflt ps =>
    (try dsimp only [am_step] at h); have h9 := am_i1_inv h; clear h; obtain ⟨y, r, rfl, h⟩ := h9
    obtain ⟨len, hd⟩ := am_dec2 hd rfl
    split at h
    · next h0 => obtain rfl := am_n_inv h; exact am_w_lsw hx hb hd h0.1 h0.2 k
    · cases h
  | getfield idx =>
    (try dsimp only [am_step] at h); have h9 := am_a1_inv h; clear h; obtain ⟨a, r, rfl, h⟩ := h9
    split at h
    · next c1 fs ha =>
      split at h
      · next hc =>
        obtain ⟨hc, h50⟩ := hc
        subst hc
        split at h
        · next w hw =>
          obtain rfl := am_n_inv h
          have hf : if c1 = 50 then _ else _ := hf
          rw [if_neg h50] at hf
          obtain ⟨C, T, N, h1, h2, h3, h4, h5⟩ := hf
          exact am_w_getf hx hb hown h2 h1 h3 h4 h5 (am_dec1 hd rfl) ha hw k
        · cases h
      · cases h
    · next av f1 ha =>
      split at h
      · next hu =>
        have hf : if u = 50 then (if v = 0 then _ else _) else _ := hf
        rw [if_pos hu] at hf
        split at h
        · next hv =>
          rw [if_pos hv] at hf
          obtain rfl := am_n_inv h
          exact am_w_getS hx hb (am_dec1 hd rfl) hown hf ha (Or.inl ⟨rfl, rfl, rfl⟩) k
        · next hv =>
          rw [if_neg hv] at hf
          obtain rfl := am_n_inv h
          exact am_w_getS hx hb (am_dec1 hd rfl) hown hf ha (Or.inr ⟨rfl, rfl, rfl⟩) k
      · cases h
    · cases h
  | putfield idx =>
    (try dsimp only [am_step] at h); have h9 := am_va_inv h; clear h; obtain ⟨w, a, r, rfl, h⟩ := h9
    split at h
    · next c1 fs ha =>
      split at h
      · next hc =>
        obtain ⟨hc, -, hw⟩ := hc
        subst hc
        obtain rfl := am_n_inv h
        obtain ⟨C, T, N, h1, h2, h3, h4, h5, h6, h7⟩ := hf
        exact am_w_putf hx hb hown h2 h1 h3 (ft c1) h5 h6 h4 h7 (am_dec1 hd rfl) ha hw k
      · cases h
    · cases h
  | new idx =>
    obtain rfl := am_n_inv h
    obtain ⟨C, T, N, h1, h2, h3, h4, h5, h6, h7, h8⟩ := hf
    exact am_w_new hx hb (am_dec1 hd rfl) hown h2 h1 (ft u) h3 h4 h5 h6 h7 h8 hr1 hr2 k
  | newarray at_ =>
    (try dsimp only [am_step] at h); have h9 := am_i1_inv h; clear h; obtain ⟨n, r, rfl, h⟩ := h9
    split at h
    · cases h
    · next hn =>
      have hn1 : ¬ n < 0 := fun z => hn (Or.inl z)
      have hn2 : n.toNatClampNeg ≤ 100000 := Nat.not_lt.mp fun z => hn (Or.inr z)
      cases at_ with
      | int => obtain rfl := am_n_inv h; exact am_w_newarr (ar := (n.toNatClampNeg, .inl fun _ => 0)) hx hb (am_dec1 hd rfl) hf (fun _ => rfl) (fun _ => rfl) hn1 (by show n.toNatClampNeg * 4 ≤ _; omega) hr1 hr2 k
      | char => obtain rfl := am_n_inv h; exact am_w_newarr (ar := (n.toNatClampNeg, .inl fun _ => 0)) hx hb (am_dec1 hd rfl) hf (fun _ => rfl) (fun _ => show fits .char (.int 0) = true by decide) hn1 (by show n.toNatClampNeg * 2 ≤ _; omega) hr1 hr2 k
      | boolean => obtain rfl := am_n_inv h; exact am_w_newarr (ar := (n.toNatClampNeg, .inl fun _ => 0)) hx hb (am_dec1 hd rfl) hf (fun _ => rfl) (fun _ => show fits .boolean (.int 0) = true by decide) hn1 (by show n.toNatClampNeg * 1 ≤ _; omega) hr1 hr2 k
      | long => obtain rfl := am_n_inv h; exact am_w_newarr (ar := (n.toNatClampNeg, .inr (.inl fun _ => 0))) hx hb (am_dec1 hd rfl) hf (fun _ => rfl) trivial hn1 (by show n.toNatClampNeg * 8 ≤ _; omega) hr1 hr2 k
      | _ => cases h
  | anewarray idx =>
    (try dsimp only [am_step] at h); have h9 := am_i1_inv h; clear h; obtain ⟨n, r, rfl, h⟩ := h9
    split at h
    · cases h
    · next hn =>
      obtain rfl := am_n_inv h
      exact am_w_anew hx hb (am_dec1 hd rfl) hown hf.1 hf.2 (fun z => hn (Or.inl z)) (by have := Nat.not_lt.mp fun z => hn (Or.inr z); omega) hr1 hr2 k
  | arraylength =>
    (try dsimp only [am_step] at h); have h9 := am_a1_inv h; clear h; obtain ⟨a, r, rfl, h⟩ := h9
    split at h
    · next ha => obtain rfl := am_n_inv h; exact am_w_alen hx hb (am_dec1 hd rfl) ha k
    · next ha => obtain rfl := am_n_inv h; exact am_w_slen hx hb (am_dec1 hd rfl) ha k
    · next ha => obtain rfl := am_n_inv h; exact am_w_tlen hx hb (am_dec1 hd rfl) ha k
    · cases h
  | iaload =>
    (try dsimp only [am_step] at h); have h9 := am_ia_inv h; clear h; obtain ⟨j, a, r, rfl, h⟩ := h9
    split at h
    · next ha =>
      split at h
      · cases h
      · next hi => obtain rfl := am_n_inv h; exact am_w_iald hx hb (am_dec1 hd rfl) ha hi k
    · next ha =>
      split at h
      · cases h
      · next hi => obtain rfl := am_n_inv h; exact am_w_sald hx hb (am_dec1 hd rfl) ha hi k
    · cases h
  | baload =>
    (try dsimp only [am_step] at h); have h9 := am_ia_inv h; clear h; obtain ⟨j, a, r, rfl, h⟩ := h9
    split at h
    · next ha =>
      split at h
      · cases h
      · next hi => obtain rfl := am_n_inv h; exact am_w_zald hx hb (am_dec1 hd rfl) ha hi k
    · next ha =>
      split at h
      · cases h
      · next hi => obtain rfl := am_n_inv h; exact am_w_tb hx hb (am_dec1 hd rfl) ha hi k
    · cases h
  | caload =>
    (try dsimp only [am_step] at h); have h9 := am_ia_inv h; clear h; obtain ⟨j, a, r, rfl, h⟩ := h9
    split at h
    · next ha =>
      split at h
      · cases h
      · next hi => obtain rfl := am_n_inv h; exact am_w_cald hx hb (am_dec1 hd rfl) ha hi k
    · cases h
  | laload =>
    (try dsimp only [am_step] at h); have h9 := am_ia_inv h; clear h; obtain ⟨j, a, r, rfl, h⟩ := h9
    split at h
    · next ha =>
      split at h
      · cases h
      · next hi => obtain rfl := am_n_inv h; exact am_w_lald hx hb (am_dec1 hd rfl) ha hi k
    · cases h
  | aaload =>
    (try dsimp only [am_step] at h); have h9 := am_ia_inv h; clear h; obtain ⟨j, a, r, rfl, h⟩ := h9
    split at h
    · next ha =>
      split at h
      · cases h
      · next hi => obtain rfl := am_n_inv h; exact am_w_aald hx hb (am_dec1 hd rfl) ha hi k
    · cases h
  | iastore =>
    (try dsimp only [am_step] at h); have h9 := am_iia_inv h; clear h; obtain ⟨y, j, a, r, rfl, h⟩ := h9
    split at h
    · next ha =>
      split at h
      · cases h
      · next hi => obtain rfl := am_n_inv h; exact am_w_iast hx hb (am_dec1 hd rfl) ha hi k
    · cases h
  | bastore =>
    (try dsimp only [am_step] at h); have h9 := am_iia_inv h; clear h; obtain ⟨y, j, a, r, rfl, h⟩ := h9
    split at h
    · next ha =>
      split at h
      · cases h
      · next hi => obtain rfl := am_n_inv h; exact am_w_zast hx hb (am_dec1 hd rfl) ha hi k
    · cases h
  | castore =>
    (try dsimp only [am_step] at h); have h9 := am_iia_inv h; clear h; obtain ⟨y, j, a, r, rfl, h⟩ := h9
    split at h
    · next ha =>
      split at h
      · cases h
      · next hi => obtain rfl := am_n_inv h; exact am_w_cast hx hb (am_dec1 hd rfl) ha hi k
    · cases h
  | lastore =>
    (try dsimp only [am_step] at h); have h9 := am_lia_inv h; clear h; obtain ⟨y, j, a, r, rfl, h⟩ := h9
    split at h
    · next ha =>
      split at h
      · cases h
      · next hi => obtain rfl := am_n_inv h; exact am_w_last hx hb (am_dec1 hd rfl) ha hi k
    · cases h
  | aastore =>
    (try dsimp only [am_step] at h); have h9 := am_qia_inv h; clear h; obtain ⟨y, j, a, r, rfl, h⟩ := h9
    split at h
    · next ha =>
      split at h
      · cases h
      · next hi =>
        cases y with
        | none => obtain rfl := am_n_inv h; exact am_w_aastN hx hb (am_dec1 hd rfl) ha hi k
        | some b =>
          dsimp only at h
          split at h
          · next c1 fs hbv =>
            split at h
            · next hC => obtain rfl := am_n_inv h; exact am_w_aast hx hb (am_dec1 hd rfl) (fun r hr => (hnm c1 r hr).trans hC) ha hbv hi k
            · cases h
          · cases h
    · cases h
  | invokespecial idx =>
    replace h : (if d = 0 ∨ ¬ u = 1000 then none else am_a1 st fun _ r => if (r.map fun w => w.category).sum ≤ 8 then am_n (pc + 3) lv r σ top sl else none) = some x := h
    split at h
    · cases h
    · next hd0 =>
      (try dsimp only [am_step] at h); have h9 := am_a1_inv h; clear h; obtain ⟨a, r, rfl, h⟩ := h9
      split at h
      · next hw =>
        obtain rfl := am_n_inv h
        obtain ⟨h1, h2, h3⟩ := hf (Decidable.not_not.mp fun z => hd0 (Or.inr z))
        have hd1 : ¬ d = 0 := fun z => hd0 (Or.inl z)
        exact am_w_objinit hx hb hml (am_dec1 hd rfl) hown h1 h2 h3 (by omega) hw (by omega) k
      · cases h
  | _ => exact absurd (show (none : am_O) = some x from h) (fun z => by cases z)
end AMT
