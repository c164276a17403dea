/-! the abstract machine's steps over the program's own table; numbers as Nats where they are none too large -/
def ii (n : Nat) : Int32 := Int32.ofNat n
theorem ii_toInt {n : Nat} (h : n < 2147483648) : (ii n).toInt = (n : Int) := Int32.toInt_ofNat_of_lt h
theorem ii_lt {a b : Nat} (ha : a < 2147483648) (hb : b < 2147483648) : ii a < ii b ↔ a < b := by
  rw [Int32.lt_iff_toInt_lt, ii_toInt ha, ii_toInt hb]
  omega
theorem ii_le {a b : Nat} (ha : a < 2147483648) (hb : b < 2147483648) : ii a ≤ ii b ↔ a ≤ b := by
  rw [Int32.le_iff_toInt_le, ii_toInt ha, ii_toInt hb]
  omega
theorem ii_eq {a b : Nat} (ha : a < 2147483648) (hb : b < 2147483648) : ii a = ii b ↔ a = b := by
  rw [← Int32.toInt_inj, ii_toInt ha, ii_toInt hb]
  omega
theorem ii_neg {a : Nat} (ha : a < 2147483648) : ¬ ii a < 0 := by
  rw [Int32.lt_iff_toInt_lt, ii_toInt ha, Int32.toInt_zero]
  omega
theorem ii_nn {a : Nat} (ha : a < 2147483648) : (ii a).toNatClampNeg = a := by
  show (ii a).toInt.toNat = a
  rw [ii_toInt ha]
  omega
theorem ii_add (a b : Nat) : ii a + ii b = ii (a + b) := (Int32.ofNat_add a b).symm
theorem ii_mul (a b : Nat) : ii a * ii b = ii (a * b) := (Int32.ofNat_mul a b).symm
theorem ii_sub {a b : Nat} (h : b ≤ a) : ii a - ii b = ii (a - b) := by
  have h1 : ii (a - b) + ii b = ii a := by rw [ii_add, Nat.sub_add_cancel h]
  rw [← h1, Int32.add_sub_cancel]
theorem ii_sub1 {a b : Nat} (h : a = b + 1) : ii a + (-1) = ii b := by
  have h1 : ii a = ii b + ii 1 := by rw [ii_add, h]
  rw [h1]
  have : ii b + ii 1 + (-1) = ii b + (ii 1 + (-1)) := Int32.add_assoc ..
  rw [this, show ii 1 + (-1 : Int32) = 0 by decide, Int32.add_zero]
theorem ii_ne1 {a : Nat} (ha : a < 2147483648) : ii a ≠ -1 := by
  intro h
  have h2 := congrArg Int32.toInt h
  rw [ii_toInt ha, show (-1 : Int32).toInt = -1 by decide] at h2
  omega
/-- the condition of a branch -/
def am_cp (cd : ClassFile.Cond) (x y : Int32) : Prop := match cd with
  | .eq => x = y
  | .ne => ¬ x = y
  | .lt => x < y
  | .ge => y ≤ x
  | .gt => y < x
  | .le => x ≤ y
theorem am_cb_t {cd : ClassFile.Cond} {x y : Int32} (h : am_cp cd x y) : am_cb cd x y = true := by
  cases cd <;> exact decide_eq_true h
theorem am_cb_f {cd : ClassFile.Cond} {x y : Int32} (h : ¬ am_cp cd x y) : am_cb cd x y = false := by
  cases cd <;> exact decide_eq_false h
section XS
variable {cs : Nat → Value} {d y pc : Nat} {lv : am_V} {st : List Value} {σ : am_H} {top sl : Nat} {res : am_R} {u k : Nat}
/-- an instruction that goes on -/
theorem x_n {i : Instr} {pc' : Nat} {lv' : am_V} {st' : List Value} {σ' : am_H} {top' sl' : Nat} (hI : cd_I y pc = some (i, u, k)) (hk : am_kind i u = 0) (hs : am_step cs cd_ft cd_df cd_ns cd_nm d pc lv st σ top sl i u k = some (pc', lv', st', σ', top', sl')) (h : am_to cd_t cs d y pc' lv' st' σ' top' sl' res) : am_to cd_t cs d y pc lv st σ top sl res := am_to_n (t := cd_t) hI hk hs h
/-- an end -/
theorem x_end {i : Instr} {r : Option Value ⊕ Nat} (hI : cd_I y pc = some (i, u, k)) (hk : am_kind i u = 2) (he : am_end (cd_rt y) st i = some r) (hr : res = (r, σ, top, sl)) : am_to cd_t cs d y pc lv st σ top sl res := by
  subst hr
  exact am_to_end (t := cd_t) hI hk he
theorem x_ic {n : Int} {z : Int32} (hI : cd_I y pc = some (.iconst n, u, k)) (hz : Int32.ofInt n = z) (h : am_to cd_t cs d y (pc + 1) lv (.int z :: st) σ top sl res) : am_to cd_t cs d y pc lv st σ top sl res := by
  subst hz
  exact x_n hI rfl rfl h
theorem x_bi {n : Int} {z : Int32} (hI : cd_I y pc = some (.bipush n, u, k)) (hz : (Int8.ofInt n).toInt32 = z) (h : am_to cd_t cs d y (pc + 2) lv (.int z :: st) σ top sl res) : am_to cd_t cs d y pc lv st σ top sl res := by
  subst hz
  exact x_n hI rfl rfl h
theorem x_si {n : Int} {z : Int32} (hI : cd_I y pc = some (.sipush n, u, k)) (hz : (Int16.ofInt n).toInt32 = z) (h : am_to cd_t cs d y (pc + 3) lv (.int z :: st) σ top sl res) : am_to cd_t cs d y pc lv st σ top sl res := by
  subst hz
  exact x_n hI rfl rfl h
theorem x_iinc {j : Nat} {n : Int} {x z : Int32} {lv' : am_V} (hI : cd_I y pc = some (.iinc j n, u, k)) (hg : am_get lv j = some (.int x)) (hz : x + Int32.ofInt n = z) (hl : lv.set j (some (.int z)) = lv') (h : am_to cd_t cs d y (pc + 3) lv' st σ top sl res) : am_to cd_t cs d y pc lv st σ top sl res := by
  subst hz
  subst hl
  refine x_n hI rfl ?_ h
  dsimp only [am_step]
  rw [hg]
  exact if_pos (am_get_lt hg)
theorem x_iadd {x w z : Int32} (hI : cd_I y pc = some (.iadd, u, k)) (hz : x + w = z) (h : am_to cd_t cs d y (pc + 1) lv (.int z :: st) σ top sl res) : am_to cd_t cs d y pc lv (.int w :: .int x :: st) σ top sl res := by
  subst hz
  exact x_n hI rfl rfl h
theorem x_isub {x w z : Int32} (hI : cd_I y pc = some (.isub, u, k)) (hz : x - w = z) (h : am_to cd_t cs d y (pc + 1) lv (.int z :: st) σ top sl res) : am_to cd_t cs d y pc lv (.int w :: .int x :: st) σ top sl res := by
  subst hz
  exact x_n hI rfl rfl h
theorem x_imul {x w z : Int32} (hI : cd_I y pc = some (.imul, u, k)) (hz : x * w = z) (h : am_to cd_t cs d y (pc + 1) lv (.int z :: st) σ top sl res) : am_to cd_t cs d y pc lv (.int w :: .int x :: st) σ top sl res := by
  subst hz
  exact x_n hI rfl rfl h
theorem x_iand {x w z : Int32} (hI : cd_I y pc = some (.iand, u, k)) (hz : x &&& w = z) (h : am_to cd_t cs d y (pc + 1) lv (.int z :: st) σ top sl res) : am_to cd_t cs d y pc lv (.int w :: .int x :: st) σ top sl res := by
  subst hz
  exact x_n hI rfl rfl h
theorem x_ior {x w z : Int32} (hI : cd_I y pc = some (.ior, u, k)) (hz : x ||| w = z) (h : am_to cd_t cs d y (pc + 1) lv (.int z :: st) σ top sl res) : am_to cd_t cs d y pc lv (.int w :: .int x :: st) σ top sl res := by
  subst hz
  exact x_n hI rfl rfl h
theorem x_ishl {x w z : Int32} (hI : cd_I y pc = some (.ishl, u, k)) (hz : x <<< (w &&& 31) = z) (h : am_to cd_t cs d y (pc + 1) lv (.int z :: st) σ top sl res) : am_to cd_t cs d y pc lv (.int w :: .int x :: st) σ top sl res := by
  subst hz
  exact x_n hI rfl rfl h
theorem x_ishr {x w z : Int32} (hI : cd_I y pc = some (.ishr, u, k)) (hz : x >>> (w &&& 31) = z) (h : am_to cd_t cs d y (pc + 1) lv (.int z :: st) σ top sl res) : am_to cd_t cs d y pc lv (.int w :: .int x :: st) σ top sl res := by
  subst hz
  exact x_n hI rfl rfl h
theorem x_idiv {x w z : Int32} (hI : cd_I y pc = some (.idiv, u, k)) (h0 : ¬ w = 0) (hz : x / w = z) (h : am_to cd_t cs d y (pc + 1) lv (.int z :: st) σ top sl res) : am_to cd_t cs d y pc lv (.int w :: .int x :: st) σ top sl res := by
  subst hz
  refine x_n hI rfl ?_ h
  dsimp only [am_step, am_i2]
  exact if_neg h0
theorem x_irem {x w z : Int32} (hI : cd_I y pc = some (.irem, u, k)) (h0 : ¬ w = 0) (hz : x - x / w * w = z) (h : am_to cd_t cs d y (pc + 1) lv (.int z :: st) σ top sl res) : am_to cd_t cs d y pc lv (.int w :: .int x :: st) σ top sl res := by
  subst hz
  refine x_n hI rfl ?_ h
  dsimp only [am_step, am_i2]
  exact if_neg h0
theorem x_icmp {cd : ClassFile.Cond} {off : Int} {x z : Int32} (hI : cd_I y pc = some (.if_icmp cd off, u, k)) (h1 : am_cp cd x z → am_to cd_t cs d y u lv st σ top sl res) (h2 : ¬ am_cp cd x z → am_to cd_t cs d y (pc + 3) lv st σ top sl res) : am_to cd_t cs d y pc lv (.int z :: .int x :: st) σ top sl res := by
  by_cases hc : am_cp cd x z
  · refine x_n hI rfl (pc' := u) (lv' := lv) (st' := st) (σ' := σ) (top' := top) (sl' := sl) ?_ (h1 hc)
    dsimp only [am_step, am_i2]
    exact if_pos (am_cb_t hc)
  · refine x_n hI rfl (pc' := pc + 3) (lv' := lv) (st' := st) (σ' := σ) (top' := top) (sl' := sl) ?_ (h2 hc)
    dsimp only [am_step, am_i2]
    exact if_neg (by rw [am_cb_f hc]; decide)
theorem x_icmp_t {cd : ClassFile.Cond} {off : Int} {x z : Int32} (hI : cd_I y pc = some (.if_icmp cd off, u, k)) (hc : am_cp cd x z) (h1 : am_to cd_t cs d y u lv st σ top sl res) : am_to cd_t cs d y pc lv (.int z :: .int x :: st) σ top sl res := x_icmp hI (fun _ => h1) (fun h => absurd hc h)
theorem x_icmp_f {cd : ClassFile.Cond} {off : Int} {x z : Int32} (hI : cd_I y pc = some (.if_icmp cd off, u, k)) (hc : ¬ am_cp cd x z) (h1 : am_to cd_t cs d y (pc + 3) lv st σ top sl res) : am_to cd_t cs d y pc lv (.int z :: .int x :: st) σ top sl res := x_icmp hI (fun h => absurd h hc) (fun _ => h1)
theorem x_if {cd : ClassFile.Cond} {off : Int} {x : Int32} (hI : cd_I y pc = some (.ifCond cd off, u, k)) (h1 : am_cp cd x 0 → am_to cd_t cs d y u lv st σ top sl res) (h2 : ¬ am_cp cd x 0 → am_to cd_t cs d y (pc + 3) lv st σ top sl res) : am_to cd_t cs d y pc lv (.int x :: st) σ top sl res := by
  by_cases hc : am_cp cd x 0
  · refine x_n hI rfl (pc' := u) (lv' := lv) (st' := st) (σ' := σ) (top' := top) (sl' := sl) ?_ (h1 hc)
    dsimp only [am_step, am_i1]
    exact if_pos (am_cb_t hc)
  · refine x_n hI rfl (pc' := pc + 3) (lv' := lv) (st' := st) (σ' := σ) (top' := top) (sl' := sl) ?_ (h2 hc)
    dsimp only [am_step, am_i1]
    exact if_neg (by rw [am_cb_f hc]; decide)
theorem x_if_t {cd : ClassFile.Cond} {off : Int} {x : Int32} (hI : cd_I y pc = some (.ifCond cd off, u, k)) (hc : am_cp cd x 0) (h1 : am_to cd_t cs d y u lv st σ top sl res) : am_to cd_t cs d y pc lv (.int x :: st) σ top sl res := x_if hI (fun _ => h1) (fun h => absurd hc h)
theorem x_if_f {cd : ClassFile.Cond} {off : Int} {x : Int32} (hI : cd_I y pc = some (.ifCond cd off, u, k)) (hc : ¬ am_cp cd x 0) (h1 : am_to cd_t cs d y (pc + 3) lv st σ top sl res) : am_to cd_t cs d y pc lv (.int x :: st) σ top sl res := x_if hI (fun h => absurd h hc) (fun _ => h1)
/-- a branch over an answer of 1 or 0 -/
theorem x_ifb {cd : ClassFile.Cond} {off : Int} {P : Prop} [Decidable P] (hI : cd_I y pc = some (.ifCond cd off, u, k)) (hcd : cd = .eq ∨ cd = .ne) (h1 : P → am_to cd_t cs d y (if cd = .eq then pc + 3 else u) lv st σ top sl res) (h2 : ¬ P → am_to cd_t cs d y (if cd = .eq then u else pc + 3) lv st σ top sl res) : am_to cd_t cs d y pc lv (.int (if P then 1 else 0) :: st) σ top sl res := by
  rcases hcd with rfl | rfl
  · by_cases hp : P
    · rw [if_pos hp]
      exact x_if_f hI (fun z => absurd (show (1 : Int32) = 0 from z) (by decide)) (by have := h1 hp; rw [if_pos rfl] at this; exact this)
    · rw [if_neg hp]
      exact x_if_t hI rfl (by have := h2 hp; rw [if_pos rfl] at this; exact this)
  · by_cases hp : P
    · rw [if_pos hp]
      exact x_if_t hI (fun z => absurd (show (1 : Int32) = 0 from z) (by decide)) (by have := h1 hp; rw [if_neg (by decide)] at this; exact this)
    · rw [if_neg hp]
      exact x_if_f hI (fun z => z rfl) (by have := h2 hp; rw [if_neg (by decide)] at this; exact this)
theorem x_null_t {off : Int} (hI : cd_I y pc = some (.ifnull off, u, k)) (h : am_to cd_t cs d y u lv st σ top sl res) : am_to cd_t cs d y pc lv (.null :: st) σ top sl res := x_n hI rfl rfl h
theorem x_null_f {off : Int} {a : Nat} (hI : cd_I y pc = some (.ifnull off, u, k)) (h : am_to cd_t cs d y (pc + 3) lv st σ top sl res) : am_to cd_t cs d y pc lv (.ref a :: st) σ top sl res := x_n hI rfl rfl h
theorem x_nn_f {off : Int} (hI : cd_I y pc = some (.ifnonnull off, u, k)) (h : am_to cd_t cs d y (pc + 3) lv st σ top sl res) : am_to cd_t cs d y pc lv (.null :: st) σ top sl res := x_n hI rfl rfl h
theorem x_nn_t {off : Int} {a : Nat} (hI : cd_I y pc = some (.ifnonnull off, u, k)) (h : am_to cd_t cs d y u lv st σ top sl res) : am_to cd_t cs d y pc lv (.ref a :: st) σ top sl res := x_n hI rfl rfl h
/-- fields -/
theorem x_getf {idx a : Nat} {fs : List Value} {w : Value} (hI : cd_I y pc = some (.getfield idx, u, k)) (ho : σ a = some (.inr (.inl (u, fs)))) (hk : fs[k]? = some w) (hu : Nat.beq u 50 = false) (h : am_to cd_t cs d y (pc + 3) lv (w :: st) σ top sl res) : am_to cd_t cs d y pc lv (.ref a :: st) σ top sl res := by
  refine x_n hI rfl ?_ h
  dsimp only [am_step, am_a1]
  rw [ho]
  try dsimp only
  have hu' : ¬ u = 50 := fun z => by rw [z] at hu; cases hu
  rw [if_pos ⟨rfl, hu'⟩, hk]
  rfl
theorem x_putf {idx a : Nat} {fs fs' : List Value} {w : Value} (hI : cd_I y pc = some (.putfield idx, u, k)) (ho : σ a = some (.inr (.inl (u, fs)))) (hk : Nat.blt k fs.length = true) (hf : am_fv (cd_ft u k) w = true) (hfs : fs.set k w = fs') (h : am_to cd_t cs d y (pc + 3) lv st (am_up σ a (.inr (.inl (u, fs')))) top sl res) : am_to cd_t cs d y pc lv (w :: .ref a :: st) σ top sl res := by
  subst hfs
  refine x_n hI rfl ?_ h
  dsimp only [am_step, am_va]
  rw [ho]
  try dsimp only
  exact if_pos ⟨rfl, Nat.le_of_ble_eq_true hk, hf⟩
/-- arrays -/
theorem x_len {a n : Nat} {ty : FieldType} {ar : _} (hI : cd_I y pc = some (.arraylength, u, k)) (ho : σ a = some (.inl (ty, n, ar))) (h : am_to cd_t cs d y (pc + 1) lv (.int (ii n) :: st) σ top sl res) : am_to cd_t cs d y pc lv (.ref a :: st) σ top sl res := by
  refine x_n hI rfl ?_ h
  dsimp only [am_step, am_a1]
  rw [ho]
  rfl
theorem x_bnd {n i : Nat} (hi : i < n) (hn : n ≤ 2147483648) : ¬ (ii i < 0 ∨ n ≤ (ii i).toNatClampNeg) := by
  rintro (h | h)
  · exact ii_neg (by omega) h
  · rw [ii_nn (by omega)] at h
    omega
theorem x_iaload {a n i : Nat} {f : Nat → Int32} (hI : cd_I y pc = some (.iaload, u, k)) (ho : σ a = some (.inl (.int, n, .inl f))) (hi : i < n) (hn : n ≤ 2147483648) (h : am_to cd_t cs d y (pc + 1) lv (.int (f i) :: st) σ top sl res) : am_to cd_t cs d y pc lv (.int (ii i) :: .ref a :: st) σ top sl res := by
  refine x_n hI rfl ?_ h
  dsimp only [am_step, am_ia]
  rw [ho]
  try dsimp only
  rw [if_neg (x_bnd hi hn), ii_nn (by omega)]
  rfl
theorem x_iaload0 {a n i : Nat} {f : Nat → Int32} (hI : cd_I y pc = some (.iaload, u, k)) (ho : σ a = some (.inr (.inr (0, n, f)))) (hi : i < n) (hn : n ≤ 2147483648) (h : am_to cd_t cs d y (pc + 1) lv (.int (f i) :: st) σ top sl res) : am_to cd_t cs d y pc lv (.int (ii i) :: .ref a :: st) σ top sl res := by
  refine x_n hI rfl ?_ h
  dsimp only [am_step, am_ia]
  rw [ho]
  try dsimp only
  show (if ii i < 0 ∨ n ≤ (ii i).toNatClampNeg then none else am_n (pc + 1) lv (.int (f (ii i).toNatClampNeg) :: st) σ top sl) = _
  rw [if_neg (x_bnd hi hn), ii_nn (by omega)]
  rfl
theorem x_caload {a n i : Nat} {f : Nat → Int32} (hI : cd_I y pc = some (.caload, u, k)) (ho : σ a = some (.inl (.char, n, .inl f))) (hi : i < n) (hn : n ≤ 2147483648) (h : am_to cd_t cs d y (pc + 1) lv (.int (f i) :: st) σ top sl res) : am_to cd_t cs d y pc lv (.int (ii i) :: .ref a :: st) σ top sl res := by
  refine x_n hI rfl ?_ h
  dsimp only [am_step, am_ia]
  rw [ho]
  try dsimp only
  rw [if_neg (x_bnd hi hn), ii_nn (by omega)]
  rfl
theorem x_baload {a n i : Nat} {f : Nat → Int32} (hI : cd_I y pc = some (.baload, u, k)) (ho : σ a = some (.inl (.boolean, n, .inl f))) (hi : i < n) (hn : n ≤ 2147483648) (h : am_to cd_t cs d y (pc + 1) lv (.int (f i) :: st) σ top sl res) : am_to cd_t cs d y pc lv (.int (ii i) :: .ref a :: st) σ top sl res := by
  refine x_n hI rfl ?_ h
  dsimp only [am_step, am_ia]
  rw [ho]
  try dsimp only
  rw [if_neg (x_bnd hi hn), ii_nn (by omega)]
  rfl
theorem x_baload2 {a n i : Nat} {f : Nat → Int32} (hI : cd_I y pc = some (.baload, u, k)) (ho : σ a = some (.inr (.inr (2, n, f)))) (hi : i < n) (hn : n ≤ 2147483648) (h : am_to cd_t cs d y (pc + 1) lv (.int (f i) :: st) σ top sl res) : am_to cd_t cs d y pc lv (.int (ii i) :: .ref a :: st) σ top sl res := by
  refine x_n hI rfl ?_ h
  dsimp only [am_step, am_ia]
  rw [ho]
  try dsimp only
  show (if ii i < 0 ∨ n ≤ (ii i).toNatClampNeg then none else am_n (pc + 1) lv (.int (f (ii i).toNatClampNeg) :: st) σ top sl) = _
  rw [if_neg (x_bnd hi hn), ii_nn (by omega)]
  rfl
theorem x_laload {a n i : Nat} {f : Nat → Int64} (hI : cd_I y pc = some (.laload, u, k)) (ho : σ a = some (.inl (.long, n, .inr (.inl f)))) (hi : i < n) (hn : n ≤ 2147483648) (h : am_to cd_t cs d y (pc + 1) lv (.long (f i) :: st) σ top sl res) : am_to cd_t cs d y pc lv (.int (ii i) :: .ref a :: st) σ top sl res := by
  refine x_n hI rfl ?_ h
  dsimp only [am_step, am_ia]
  rw [ho]
  try dsimp only
  rw [if_neg (x_bnd hi hn), ii_nn (by omega)]
  rfl
theorem x_aaload {a n i : Nat} {C : String} {f : Nat → Option Nat} (hI : cd_I y pc = some (.aaload, u, k)) (ho : σ a = some (.inl (.object C, n, .inr (.inr (.inr (.inr f)))))) (hi : i < n) (hn : n ≤ 2147483648) (h : am_to cd_t cs d y (pc + 1) lv (va_rf (f i) :: st) σ top sl res) : am_to cd_t cs d y pc lv (.int (ii i) :: .ref a :: st) σ top sl res := by
  refine x_n hI rfl ?_ h
  dsimp only [am_step, am_ia]
  rw [ho]
  try dsimp only
  rw [if_neg (x_bnd hi hn), ii_nn (by omega)]
  rfl
theorem x_iastore {a n i : Nat} {f : Nat → Int32} {x : Int32} (hI : cd_I y pc = some (.iastore, u, k)) (ho : σ a = some (.inl (.int, n, .inl f))) (hi : i < n) (hn : n ≤ 2147483648) (h : am_to cd_t cs d y (pc + 1) lv st (am_up σ a (.inl (.int, n, .inl (upd f i x)))) top sl res) : am_to cd_t cs d y pc lv (.int x :: .int (ii i) :: .ref a :: st) σ top sl res := by
  refine x_n hI rfl ?_ h
  dsimp only [am_step, am_iia]
  rw [ho]
  try dsimp only
  rw [if_neg (x_bnd hi hn), ii_nn (by omega)]
  rfl
theorem x_castore {a n i : Nat} {f : Nat → Int32} {x : Int32} (hI : cd_I y pc = some (.castore, u, k)) (ho : σ a = some (.inl (.char, n, .inl f))) (hi : i < n) (hn : n ≤ 2147483648) (h : am_to cd_t cs d y (pc + 1) lv st (am_up σ a (.inl (.char, n, .inl (upd f i (vp_nar .char x))))) top sl res) : am_to cd_t cs d y pc lv (.int x :: .int (ii i) :: .ref a :: st) σ top sl res := by
  refine x_n hI rfl ?_ h
  dsimp only [am_step, am_iia]
  rw [ho]
  try dsimp only
  rw [if_neg (x_bnd hi hn), ii_nn (by omega)]
  rfl
theorem x_bastore {a n i : Nat} {f : Nat → Int32} {x : Int32} (hI : cd_I y pc = some (.bastore, u, k)) (ho : σ a = some (.inl (.boolean, n, .inl f))) (hi : i < n) (hn : n ≤ 2147483648) (h : am_to cd_t cs d y (pc + 1) lv st (am_up σ a (.inl (.boolean, n, .inl (upd f i (vp_nar .boolean x))))) top sl res) : am_to cd_t cs d y pc lv (.int x :: .int (ii i) :: .ref a :: st) σ top sl res := by
  refine x_n hI rfl ?_ h
  dsimp only [am_step, am_iia]
  rw [ho]
  try dsimp only
  rw [if_neg (x_bnd hi hn), ii_nn (by omega)]
  rfl
theorem x_lastore {a n i : Nat} {f : Nat → Int64} {x : Int64} (hI : cd_I y pc = some (.lastore, u, k)) (ho : σ a = some (.inl (.long, n, .inr (.inl f)))) (hi : i < n) (hn : n ≤ 2147483648) (h : am_to cd_t cs d y (pc + 1) lv st (am_up σ a (.inl (.long, n, .inr (.inl (vp_updL f i x))))) top sl res) : am_to cd_t cs d y pc lv (.long x :: .int (ii i) :: .ref a :: st) σ top sl res := by
  refine x_n hI rfl ?_ h
  dsimp only [am_step, am_lia]
  rw [ho]
  try dsimp only
  rw [if_neg (x_bnd hi hn), ii_nn (by omega)]
  rfl
theorem x_aastore {a b n i c : Nat} {C : String} {f : Nat → Option Nat} {fs : List Value} (hI : cd_I y pc = some (.aastore, u, k)) (ho : σ a = some (.inl (.object C, n, .inr (.inr (.inr (.inr f)))))) (hb : σ b = some (.inr (.inl (c, fs)))) (hC : cd_nm c = C) (hi : i < n) (hn : n ≤ 2147483648) (h : am_to cd_t cs d y (pc + 1) lv st (am_up σ a (.inl (.object C, n, .inr (.inr (.inr (.inr (va_up f i (some b)))))))) top sl res) : am_to cd_t cs d y pc lv (.ref b :: .int (ii i) :: .ref a :: st) σ top sl res := by
  refine x_n hI rfl ?_ h
  dsimp only [am_step, am_qia]
  rw [ho]
  try dsimp only
  rw [if_neg (x_bnd hi hn)]
  try dsimp only
  rw [hb]
  try dsimp only
  rw [if_pos hC, ii_nn (by omega)]
  rfl
/-- a call on an object -/
theorem x_callv {idx b : Nat} {as' rest fs : List Value} {r : Option Value} {σ1 : am_H} {top1 sl1 : Nat} (hI : cd_I y pc = some (.invokevirtual idx, u, k)) (ho : σ b = some (.inr (.inl (cd_mc u, fs)))) (hd : 0 < d) (hst : st = as'.reverse ++ .ref b :: rest) (hk : as'.length = k) (hsum : Nat.ble ((rest.map fun w => w.category).sum) 8 = true) (hu : Nat.ble u 1000 = true) (hl : Nat.ble (as'.length + 1) (cd_ml u) = true) (hc : as'.all am_c1 = true)
    (h1 : am_to cd_t cs (d - 1) u 0 (am_ent (cd_ml u) (.ref b :: as')) [] σ top sl (.inl r, σ1, top1, sl1)) (h2 : am_to cd_t cs d y (pc + 3) lv (r.toList ++ rest) σ1 top1 sl1 res) : am_to cd_t cs d y pc lv st σ top sl res := by
  refine am_to_call (t := cd_t) (as := .ref b :: as') (rest := rest) hI rfl ?_ (Nat.le_of_ble_eq_true hsum) (Nat.not_lt.mpr (Nat.le_of_ble_eq_true hu)) ⟨Nat.le_of_ble_eq_true hl, by rw [List.all_cons, hc]; rfl⟩ h1 h2
  subst hst
  subst hk
  show am_call cd_mc d _ σ _ u _ = _
  dsimp only [am_call]
  rw [if_neg (by omega)]
  have e1 : (as'.reverse ++ .ref b :: rest).drop as'.length = .ref b :: rest := by
    rw [List.drop_append_of_le_length (by rw [List.length_reverse]; exact Nat.le_refl _), List.drop_of_length_le (by rw [List.length_reverse]; exact Nat.le_refl _), List.nil_append]
  have e2 : (as'.reverse ++ .ref b :: rest).take as'.length = as'.reverse := by
    rw [List.take_append_of_le_length (by rw [List.length_reverse]; exact Nat.le_refl _), List.take_of_length_le (by rw [List.length_reverse]; exact Nat.le_refl _)]
  rw [e1, e2, List.reverse_reverse]
  try dsimp only
  rw [ho]
  exact if_pos rfl
/-- a call of a constructor -/
theorem x_calli {idx b : Nat} {as' rest : List Value} {r : Option Value} {σ1 : am_H} {top1 sl1 : Nat} (hI : cd_I y pc = some (.invokespecial idx, u, k)) (hd : 0 < d) (hst : st = as'.reverse ++ .ref b :: rest) (hk : as'.length = k) (hsum : Nat.ble ((rest.map fun w => w.category).sum) 8 = true) (hu : Nat.blt u 1000 = true) (hl : Nat.ble (as'.length + 1) (cd_ml u) = true) (hc : as'.all am_c1 = true)
    (h1 : am_to cd_t cs (d - 1) u 0 (am_ent (cd_ml u) (.ref b :: as')) [] σ top sl (.inl r, σ1, top1, sl1)) (h2 : am_to cd_t cs d y (pc + 3) lv (r.toList ++ rest) σ1 top1 sl1 res) : am_to cd_t cs d y pc lv st σ top sl res := by
  have hu' := Nat.le_of_ble_eq_true hu
  refine am_to_call (t := cd_t) (as := .ref b :: as') (rest := rest) hI (if_neg (by omega)) ?_ (Nat.le_of_ble_eq_true hsum) (by omega) ⟨Nat.le_of_ble_eq_true hl, by rw [List.all_cons, hc]; rfl⟩ h1 h2
  subst hst
  subst hk
  show am_call cd_mc d _ σ _ u _ = _
  dsimp only [am_call]
  rw [if_neg (by omega)]
  have e1 : (as'.reverse ++ .ref b :: rest).drop as'.length = .ref b :: rest := by
    rw [List.drop_append_of_le_length (by rw [List.length_reverse]; exact Nat.le_refl _), List.drop_of_length_le (by rw [List.length_reverse]; exact Nat.le_refl _), List.nil_append]
  have e2 : (as'.reverse ++ .ref b :: rest).take as'.length = as'.reverse := by
    rw [List.take_append_of_le_length (by rw [List.length_reverse]; exact Nat.le_refl _), List.take_of_length_le (by rw [List.length_reverse]; exact Nat.le_refl _)]
  rw [e1, e2, List.reverse_reverse]
/-- a call of a static method -/
theorem x_calls {idx : Nat} {as rest : List Value} {r : Option Value} {σ1 : am_H} {top1 sl1 : Nat} (hI : cd_I y pc = some (.invokestatic idx, u, k)) (hd : 0 < d) (hst : st = as.reverse ++ rest) (hk : as.length = k) (hsum : Nat.ble ((rest.map fun w => w.category).sum) 8 = true) (hu : Nat.ble u 1000 = true) (hl : Nat.ble as.length (cd_ml u) = true) (hc : as.all am_c1 = true)
    (h1 : am_to cd_t cs (d - 1) u 0 (am_ent (cd_ml u) as) [] σ top sl (.inl r, σ1, top1, sl1)) (h2 : am_to cd_t cs d y (pc + 3) lv (r.toList ++ rest) σ1 top1 sl1 res) : am_to cd_t cs d y pc lv st σ top sl res := by
  refine am_to_call (t := cd_t) (as := as) (rest := rest) hI rfl ?_ (Nat.le_of_ble_eq_true hsum) (Nat.not_lt.mpr (Nat.le_of_ble_eq_true hu)) ⟨Nat.le_of_ble_eq_true hl, hc⟩ h1 h2
  subst hst
  subst hk
  show am_call cd_mc d _ σ _ u _ = _
  dsimp only [am_call]
  have e1 : (as.reverse ++ rest).drop as.length = rest := by
    rw [List.drop_append_of_le_length (by rw [List.length_reverse]; exact Nat.le_refl _), List.drop_of_length_le (by rw [List.length_reverse]; exact Nat.le_refl _), List.nil_append]
  have e2 : (as.reverse ++ rest).take as.length = as.reverse := by
    rw [List.take_append_of_le_length (by rw [List.length_reverse]; exact Nat.le_refl _), List.take_of_length_le (by rw [List.length_reverse]; exact Nat.le_refl _)]
  rw [e1, e2, List.reverse_reverse]
  refine if_neg ?_
  rintro (h | h)
  · omega
  · rw [List.length_append, List.length_reverse] at h
    omega
/-- Object's own constructor -/
theorem x_obj {idx a : Nat} (hI : cd_I y pc = some (.invokespecial idx, 1000, k)) (hd : 0 < d) (hsum : Nat.ble ((st.map fun w => w.category).sum) 8 = true) (h : am_to cd_t cs d y (pc + 3) lv st σ top sl res) : am_to cd_t cs d y pc lv (.ref a :: st) σ top sl res := by
  refine x_n hI rfl ?_ h
  dsimp only [am_step, am_a1]
  rw [if_neg (by rintro (h | h); omega; exact h rfl), if_pos (Nat.le_of_ble_eq_true hsum)]
  rfl
theorem x_new {idx : Nat} (hI : cd_I y pc = some (.new idx, u, k)) (hu : am_kind (.new idx) u = 0) (h : am_to cd_t cs d y (pc + 3) lv (.ref top :: st) (am_up σ top (.inr (.inl (u, cd_df u)))) (top + 1) (sl + cd_ns u) res) : am_to cd_t cs d y pc lv st σ top sl res := x_n hI hu rfl h
theorem x_newia {n : Nat} (hI : cd_I y pc = some (.newarray .int, u, k)) (hn : n ≤ 100000) (h : am_to cd_t cs d y (pc + 2) lv (.ref top :: st) (am_up σ top (.inl (.int, n, .inl fun _ => 0))) (top + 1) (sl + n) res) : am_to cd_t cs d y pc lv (.int (ii n) :: st) σ top sl res := by
  refine x_n hI rfl ?_ h
  dsimp only [am_step, am_i1]
  rw [ii_nn (by omega), if_neg (by rintro (h | h); exact ii_neg (by omega) h; omega)]
  rfl
theorem x_newca {n : Nat} (hI : cd_I y pc = some (.newarray .char, u, k)) (hn : n ≤ 100000) (h : am_to cd_t cs d y (pc + 2) lv (.ref top :: st) (am_up σ top (.inl (.char, n, .inl fun _ => 0))) (top + 1) (sl + n) res) : am_to cd_t cs d y pc lv (.int (ii n) :: st) σ top sl res := by
  refine x_n hI rfl ?_ h
  dsimp only [am_step, am_i1]
  rw [ii_nn (by omega), if_neg (by rintro (h | h); exact ii_neg (by omega) h; omega)]
  rfl
theorem x_newza {n : Nat} (hI : cd_I y pc = some (.newarray .boolean, u, k)) (hn : n ≤ 100000) (h : am_to cd_t cs d y (pc + 2) lv (.ref top :: st) (am_up σ top (.inl (.boolean, n, .inl fun _ => 0))) (top + 1) (sl + n) res) : am_to cd_t cs d y pc lv (.int (ii n) :: st) σ top sl res := by
  refine x_n hI rfl ?_ h
  dsimp only [am_step, am_i1]
  rw [ii_nn (by omega), if_neg (by rintro (h | h); exact ii_neg (by omega) h; omega)]
  rfl
theorem x_newla {n : Nat} (hI : cd_I y pc = some (.newarray .long, u, k)) (hn : n ≤ 100000) (h : am_to cd_t cs d y (pc + 2) lv (.ref top :: st) (am_up σ top (.inl (.long, n, .inr (.inl fun _ => 0)))) (top + 1) (sl + n) res) : am_to cd_t cs d y pc lv (.int (ii n) :: st) σ top sl res := by
  refine x_n hI rfl ?_ h
  dsimp only [am_step, am_i1]
  rw [ii_nn (by omega), if_neg (by rintro (h | h); exact ii_neg (by omega) h; omega)]
  rfl
theorem x_newaa {n idx : Nat} (hI : cd_I y pc = some (.anewarray idx, u, k)) (hn : n ≤ 100000) (h : am_to cd_t cs d y (pc + 3) lv (.ref top :: st) (am_up σ top (.inl (.object (cd_nm u), n, .inr (.inr (.inr (.inr fun _ => none)))))) (top + 1) (sl + n) res) : am_to cd_t cs d y pc lv (.int (ii n) :: st) σ top sl res := by
  refine x_n hI rfl ?_ h
  dsimp only [am_step, am_i1]
  rw [ii_nn (by omega), if_neg (by rintro (h | h); exact ii_neg (by omega) h; omega)]
  rfl
end XS
