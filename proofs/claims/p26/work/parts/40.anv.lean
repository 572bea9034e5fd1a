/-! THE ANALYSER, 1: whole numbers by the kernel; intervals of each operation -/
theorem ai_rng (x : Int32) : -2147483648 ≤ x.toInt ∧ x.toInt ≤ 2147483647 := by
  have h1 := Int32.le_toInt x
  have h2 := Int32.toInt_lt x
  omega
theorem ai_bmod {z : Int} (h1 : -2147483648 ≤ z) (h2 : z ≤ 2147483647) : z.bmod (2 ^ 32) = z := by
  rw [Int.bmod_eq_of_le (by omega) (by omega)]
theorem ai_add {x y : Int32} (h1 : -2147483648 ≤ x.toInt + y.toInt) (h2 : x.toInt + y.toInt ≤ 2147483647) : (x + y).toInt = x.toInt + y.toInt := by
  rw [Int32.toInt_add, ai_bmod h1 h2]
theorem ai_sub {x y : Int32} (h1 : -2147483648 ≤ x.toInt - y.toInt) (h2 : x.toInt - y.toInt ≤ 2147483647) : (x - y).toInt = x.toInt - y.toInt := by
  rw [Int32.toInt_sub, ai_bmod h1 h2]
theorem ai_mul {x y : Int32} (h1 : -2147483648 ≤ x.toInt * y.toInt) (h2 : x.toInt * y.toInt ≤ 2147483647) : (x * y).toInt = x.toInt * y.toInt := by
  rw [Int32.toInt_mul, ai_bmod h1 h2]
theorem ai_of {z : Int} (h1 : -2147483648 ≤ z) (h2 : z ≤ 2147483647) : (Int32.ofInt z).toInt = z := by
  rw [Int32.toInt_ofInt, show Int32.size = 2 ^ 32 from rfl, ai_bmod h1 h2]
theorem ai_as (x : Int32) : Int32.ofInt x.toInt = x := Int32.ofInt_toInt x
theorem ai_nn {x : Int32} (h : 0 ≤ x.toInt) : ∃ j : Nat, j < 2 ^ 31 ∧ x = nI j ∧ x.toInt = (j : Int) := by
  have h1 : ¬ x < 0 := by
    rw [Int32.lt_iff_toInt_lt]
    have : (0 : Int32).toInt = 0 := rfl
    omega
  obtain ⟨j, hj, e⟩ := nI_of h1
  exact ⟨j, hj, e, by rw [e, nI_toInt hj]⟩
/-- a number is looked at -/
def an_fN {α : Type} (n : Nat) (k : Nat → α) : α := match n with
  | 0 => k 0
  | .succ m => k (.succ m)
theorem an_fN_eq {α : Type} (n : Nat) (k : Nat → α) : an_fN n k = k n := by cases n <;> rfl
def an_fI {α : Type} (z : Int) (k : Int → α) : α := match z with
  | .ofNat n => an_fN n (fun m => k (.ofNat m))
  | .negSucc n => an_fN n (fun m => k (.negSucc m))
theorem an_fI_eq {α : Type} (z : Int) (k : Int → α) : an_fI z k = k z := by
  cases z with
  | ofNat n => exact an_fN_eq n (fun m => k (.ofNat m))
  | negSucc n => exact an_fN_eq n (fun m => k (.negSucc m))
def an_le (a b : Int) : Bool := match b - a with
  | .ofNat _ => true
  | .negSucc _ => false
theorem an_le_iff {a b : Int} : an_le a b = true ↔ a ≤ b := by
  unfold an_le
  split
  · rename_i n h
    have h2 : b - a = (n : Int) := h
    constructor
    · intro _; omega
    · intro _; rfl
  · rename_i n h
    have h2 : b - a = -((n : Int) + 1) := by rw [h]; exact Int.negSucc_eq n
    constructor
    · intro q; cases q
    · intro _; omega
def an_eq (a b : Int) : Bool := match a - b with
  | .ofNat n => Nat.beq n 0
  | .negSucc _ => false
theorem an_eq_iff {a b : Int} : an_eq a b = true ↔ a = b := by
  unfold an_eq
  split
  · rename_i n h
    have h2 : a - b = (n : Int) := h
    constructor
    · intro q
      have := Nat.eq_of_beq_eq_true q
      omega
    · intro q
      have h3 : n = 0 := by omega
      subst h3
      rfl
  · rename_i n h
    have h2 : a - b = -((n : Int) + 1) := by rw [h]; exact Int.negSucc_eq n
    constructor
    · intro q; cases q
    · intro _; omega
theorem an_le_false {a b : Int} (h : an_le a b = false) : b < a := by
  have h2 : ¬ an_le a b = true := by rw [h]; decide
  rw [an_le_iff] at h2
  omega
abbrev an_mn : Int := .negSucc 2147483647
abbrev an_mx : Int := .ofNat 2147483647
theorem an_mn_eq : an_mn = -2147483648 := rfl
theorem an_mx_eq : an_mx = 2147483647 := rfl
def an_min (a b : Int) : Int := match an_le a b with
  | true => a
  | false => b
def an_max (a b : Int) : Int := match an_le a b with
  | true => b
  | false => a
theorem an_min_le (a b : Int) : an_min a b ≤ a ∧ an_min a b ≤ b ∧ (an_min a b = a ∨ an_min a b = b) := by
  unfold an_min
  split
  · rename_i h; rw [an_le_iff] at h; omega
  · rename_i h; have := an_le_false h; omega
theorem an_max_le (a b : Int) : a ≤ an_max a b ∧ b ≤ an_max a b ∧ (an_max a b = a ∨ an_max a b = b) := by
  unfold an_max
  split
  · rename_i h; rw [an_le_iff] at h; omega
  · rename_i h; have := an_le_false h; omega
/-- how many bits a number has -/
def pc_f : Nat → Nat → Nat
  | 0, _ => 0
  | f + 1, n => n % 2 + pc_f f (n / 2)
def pc_N (n : Nat) : Nat := pc_f 10 n
/-- how many bits numbers up to n have at most -/
def an_lgf : Nat → Nat → Nat → Nat → Nat
  | 0, k, _, _ => k
  | f + 1, k, p, n => match Nat.ble (p + p) n with
    | true => an_lgf f (k + 1) (p + p) n
    | false => k
def an_lg (n : Nat) : Nat := an_lgf 12 0 1 (n + 1)
theorem an_lg_1 : ∀ n, n < 1024 → pc_N n ≤ an_lg n := by decide +kernel
theorem an_lg_2 : ∀ n, n < 1024 → an_lg n ≤ an_lg (n + 1) := by decide +kernel
theorem an_lg_m {a : Nat} : ∀ {b : Nat}, a ≤ b → b ≤ 1024 → an_lg a ≤ an_lg b := by
  intro b
  induction b with
  | zero => intro h _; rw [show a = 0 by omega]; exact Nat.le_refl _
  | succ b ih =>
    intro h hb
    rcases Nat.lt_or_ge b a with q | q
    · rw [show a = b + 1 by omega]; exact Nat.le_refl _
    · exact Nat.le_trans (ih q (by omega)) (an_lg_2 b (by omega))
/-- the operations by number -/
def an_f (o : Nat) (a b : Int32) : Int32 := match o with
  | 0 => a + b
  | 1 => a - b
  | 2 => a * b
  | 3 => a &&& b
  | 4 => a ||| b
  | 5 => a ^^^ b
  | 6 => a <<< (b &&& 31)
  | 7 => a >>> (b &&& 31)
  | 8 => pm_ush a b
  | 9 => a / b
  | 10 => a - a / b * b
  | 11 => pm_min a b
  | 12 => pm_max a b
  | 13 => pm_abs a
  | 14 => (a.toUInt32 % 65536).toInt32
  | 15 => -a
  | 16 => nI (pc_N a.toNatClampNeg)
  | _ => a
def an_full : Int × Int := (an_mn, an_mx)
def an_cl (l h : Int) : Int × Int := match an_le an_mn l && an_le h an_mx with
  | true => (l, h)
  | false => an_full
/-- the least 2^k - 1 that is not below h -/
def an_p2 : Nat → Nat → Nat → Nat
  | 0, _, _ => 2147483647
  | f + 1, h, p => match Nat.ble (h + 1) p with
    | true => p - 1
    | false => an_p2 f h (p + p)
def an_iv2 (o : Nat) (la ha lb hb : Int) : Int × Int := match o with
  | 0 => an_cl (la + lb) (ha + hb)
  | 1 => an_cl (la - hb) (ha - lb)
  | 2 => an_cl (an_min (an_min (la * lb) (la * hb)) (an_min (ha * lb) (ha * hb))) (an_max (an_max (la * lb) (la * hb)) (an_max (ha * lb) (ha * hb)))
  | 3 => match an_le 0 la, an_le 0 lb with
    | true, true => (0, an_min ha hb)
    | true, false => (0, ha)
    | false, true => (0, hb)
    | false, false => an_full
  | 4 => match an_le 0 la && an_le 0 lb with
    | true => (0, .ofNat (an_p2 31 (an_max ha hb).toNat 1))
    | false => an_full
  | 5 => match an_eq lb (.negSucc 0) && an_eq hb (.negSucc 0) with
    | true => (-1 - ha, -1 - la)
    | false => an_full
  | 6 => match an_le 0 la && an_le 0 lb && an_le hb 30 && an_le (ha * .ofNat (2 ^ hb.toNat)) an_mx with
    | true => (la * .ofNat (2 ^ lb.toNat), ha * .ofNat (2 ^ hb.toNat))
    | false => an_full
  | 7 => match an_le 0 la with
    | true => (0, ha)
    | false => an_full
  | 8 => match an_eq lb hb && an_le 1 lb && an_le hb 31 with
    | true => (0, .ofNat (2 ^ (32 - lb.toNat) - 1))
    | false => an_full
  | 9 => match an_eq lb hb && an_le 1 lb with
    | true => (la.tdiv lb, ha.tdiv lb)
    | false => match an_le 0 la && an_le 1 lb with
      | true => (0, ha)
      | false => an_full
  | 10 => match an_le 1 lb with
    | true => match an_le 0 la with
      | true => (0, an_min ha (hb - 1))
      | false => (1 - hb, hb - 1)
    | false => an_full
  | 11 => (an_min la lb, an_min ha hb)
  | 12 => (an_max la lb, an_max ha hb)
  | 13 => match an_le 0 la with
    | true => (la, ha)
    | false => an_full
  | 14 => (0, 65535)
  | 15 => match an_le (-2147483647) la with
    | true => (-ha, -la)
    | false => an_full
  | 16 => match an_le 0 la && an_le ha 1023 with
    | true => (0, .ofNat (an_lg ha.toNat))
    | false => an_full
  | _ => an_full
theorem an_full_ok (x : Int32) : an_full.1 ≤ x.toInt ∧ x.toInt ≤ an_full.2 := by
  have := ai_rng x
  have h1 : an_full.1 = -2147483648 := rfl
  have h2 : an_full.2 = 2147483647 := rfl
  omega
theorem an_cl_ok {l h : Int} {x : Int32} (hx : -2147483648 ≤ l → h ≤ 2147483647 → l ≤ x.toInt ∧ x.toInt ≤ h) : (an_cl l h).1 ≤ x.toInt ∧ x.toInt ≤ (an_cl l h).2 := by
  unfold an_cl
  split
  · rename_i q
    rw [Bool.and_eq_true, an_le_iff, an_le_iff, an_mn_eq, an_mx_eq] at q
    exact hx q.1 q.2
  · exact an_full_ok x
theorem an_p2_ok : ∀ (f h p k : Nat), p = 2 ^ k → k + f = 31 → h < 2 ^ 31 → ∃ j, j ≤ 31 ∧ an_p2 f h p = 2 ^ j - 1 ∧ h < 2 ^ j := by
  intro f
  induction f with
  | zero =>
    intro h p k _ hk hh
    exact ⟨31, Nat.le_refl _, rfl, hh⟩
  | succ f ih =>
    intro h p k hp hk hh
    unfold an_p2
    split
    · rename_i q
      have := Nat.le_of_ble_eq_true q
      exact ⟨k, by omega, by rw [hp], by omega⟩
    · exact ih h (p + p) (k + 1) (by rw [hp, Nat.pow_succ]; omega) (by omega) hh
theorem ai_mulb {a b la ha lb hb : Int} (h1 : la ≤ a) (h2 : a ≤ ha) (h3 : lb ≤ b) (h4 : b ≤ hb) :
    an_min (an_min (la * lb) (la * hb)) (an_min (ha * lb) (ha * hb)) ≤ a * b ∧ a * b ≤ an_max (an_max (la * lb) (la * hb)) (an_max (ha * lb) (ha * hb)) := by
  have m1 := an_min_le (la * lb) (la * hb)
  have m2 := an_min_le (ha * lb) (ha * hb)
  have m3 := an_min_le (an_min (la * lb) (la * hb)) (an_min (ha * lb) (ha * hb))
  have x1 := an_max_le (la * lb) (la * hb)
  have x2 := an_max_le (ha * lb) (ha * hb)
  have x3 := an_max_le (an_max (la * lb) (la * hb)) (an_max (ha * lb) (ha * hb))
  -- a * b lies between la * b and ha * b (or the other way round)
  have c1 : (la * b ≤ a * b ∧ a * b ≤ ha * b) ∨ (ha * b ≤ a * b ∧ a * b ≤ la * b) := by
    rcases Int.le_total 0 b with q | q
    · exact Or.inl ⟨Int.mul_le_mul_of_nonneg_right h1 q, Int.mul_le_mul_of_nonneg_right h2 q⟩
    · exact Or.inr ⟨Int.mul_le_mul_of_nonpos_right h2 q, Int.mul_le_mul_of_nonpos_right h1 q⟩
  have c2 : ∀ c : Int, (c * lb ≤ c * b ∧ c * b ≤ c * hb) ∨ (c * hb ≤ c * b ∧ c * b ≤ c * lb) := by
    intro c
    rcases Int.le_total 0 c with q | q
    · exact Or.inl ⟨Int.mul_le_mul_of_nonneg_left h3 q, Int.mul_le_mul_of_nonneg_left h4 q⟩
    · exact Or.inr ⟨Int.mul_le_mul_of_nonpos_left q h4, Int.mul_le_mul_of_nonpos_left q h3⟩
  have d1 := c2 la
  have d2 := c2 ha
  revert m1 m2 m3 x1 x2 x3 c1 d1 d2
  generalize la * lb = p1
  generalize la * hb = p2
  generalize ha * lb = p3
  generalize ha * hb = p4
  generalize la * b = p5
  generalize ha * b = p6
  generalize a * b = p7
  generalize an_min p1 p2 = u1
  generalize an_min p3 p4 = u2
  generalize an_min u1 u2 = u3
  generalize an_max p1 p2 = v1
  generalize an_max p3 p4 = v2
  generalize an_max v1 v2 = v3
  intro m1 m2 m3 x1 x2 x3 c1 d1 d2
  omega
theorem ai_and {x y : Int32} (h : 0 ≤ x.toInt) : 0 ≤ (x &&& y).toInt ∧ (x &&& y).toInt ≤ x.toInt := by
  obtain ⟨j, hj, e, ej⟩ := ai_nn h
  have h1 : (x &&& y).toBitVec.toNat = x.toBitVec.toNat &&& y.toBitVec.toNat := by
    rw [Int32.toBitVec_and, BitVec.toNat_and]
  have hx : x.toBitVec.toNat = j := by
    have h2 : x.toBitVec = BitVec.ofNat 32 j := by rw [e]; rfl
    rw [h2, BitVec.toNat_ofNat, Nat.mod_eq_of_lt (by omega)]
  have h3 : (x &&& y).toBitVec.toNat ≤ j := by rw [h1, hx]; exact Nat.and_le_left
  have h4 : x &&& y = nI (x &&& y).toBitVec.toNat := by
    apply Int32.toBitVec_inj.mp
    show _ = BitVec.ofNat 32 _
    rw [BitVec.ofNat_toNat, BitVec.setWidth_eq]
  have h5 : (x &&& y).toInt = ((x &&& y).toBitVec.toNat : Int) := by
    rw [h4, nI_toInt (by omega), ← h4]
  omega
theorem ai_or {a b : Nat} (x y : Int32) (hx : x = nI a) (hy : y = nI b) {j : Nat} (hj : j ≤ 31) (ha : a < 2 ^ j) (hb : b < 2 ^ j) : 0 ≤ (x ||| y).toInt ∧ (x ||| y).toInt < 2 ^ j := by
  have h1 : x ||| y = nI (a ||| b) := by
    rw [hx, hy]
    apply Int32.toBitVec_inj.mp
    rw [Int32.toBitVec_or]
    show BitVec.ofNat 32 a ||| BitVec.ofNat 32 b = BitVec.ofNat 32 (a ||| b)
    rw [BitVec.ofNat_or]
  have h2 : a ||| b < 2 ^ j := Nat.or_lt_two_pow ha hb
  have h3 : (2 : Nat) ^ j ≤ 2 ^ 31 := Nat.pow_le_pow_right (by omega) hj
  rw [h1, nI_toInt (by omega)]
  have h4 : ((2 : Int) ^ j) = ((2 ^ j : Nat) : Int) := by rw [Int.natCast_pow]; rfl
  rw [h4]
  omega
theorem ai_not (x : Int32) : (x ^^^ (-1)).toInt = -1 - x.toInt := by
  have h1 : x ^^^ (-1) = ~~~x := by
    apply Int32.toBitVec_inj.mp
    rw [Int32.toBitVec_xor, Int32.toBitVec_not, show (-1 : Int32).toBitVec = BitVec.allOnes 32 from by decide, BitVec.xor_allOnes]
  rw [h1, Int32.toInt_not]
  have := ai_rng x
  rw [ai_bmod (by omega) (by omega)]
  omega
theorem ai_neg1 {y : Int32} (h : y.toInt = -1) : y = -1 := Int32.toInt_inj.mp (by rw [h]; decide)
theorem ai_shl {x y : Int32} {a k : Nat} (hx : x = nI a) (hy : y = nI k) (hk : k < 32) (h : a * 2 ^ k < 2 ^ 31) : (x <<< (y &&& 31)).toInt = ((a * 2 ^ k : Nat) : Int) := by
  have hs : ((nI k &&& 31).toBitVec.smod 32).toNat = k := by
    have : ∀ n, n < 32 → ((nI n &&& 31).toBitVec.smod 32).toNat = n := by decide +kernel
    exact this k hk
  rw [hx, hy, pk_shlN (nI k &&& 31) k hs (by omega), nI_toInt (by omega)]
theorem ai_shr {x y : Int32} (hx : 0 ≤ x.toInt) : 0 ≤ (x >>> (y &&& 31)).toInt ∧ (x >>> (y &&& 31)).toInt ≤ x.toInt := by
  rw [pk_shr x (y &&& 31) _ rfl]
  obtain ⟨j, hj, e, ej⟩ := ai_nn hx
  rw [ej]
  generalize ((y &&& 31).toBitVec.smod 32).toNat = k
  rw [Int.shiftRight_eq_div_pow]
  have h1 : ((j : Int) / ((2 ^ k : Nat) : Int)) = ((j / 2 ^ k : Nat) : Int) := by rw [Int.natCast_ediv]
  have h2 : j / 2 ^ k ≤ j := Nat.div_le_self _ _
  have h3 : ((j : Int) / ((2 : Int) ^ k)) = ((j / 2 ^ k : Nat) : Int) := by rw [← h1, Int.natCast_pow]; rfl
  first | rw [h1] | rw [h3]
  exact ⟨Int.natCast_nonneg _, Int.ofNat_le.mpr h2⟩
theorem ai_ush {x y : Int32} {k : Nat} (hy : y = nI k) (h1 : 1 ≤ k) (hk : k < 32) : 0 ≤ (pm_ush x y).toInt ∧ (pm_ush x y).toInt < 2 ^ (32 - k) := by
  have hs : (((nI k).toUInt32 &&& Int32.toUInt32 31).toBitVec % 32).toNat = k := by
    have : ∀ n, n < 32 → (((nI n).toUInt32 &&& Int32.toUInt32 31).toBitVec % 32).toNat = n := by decide +kernel
    exact this k hk
  have h2 := pk_ushr x (nI k) k hs
  unfold pm_ush
  rw [hy]
  generalize hz : ((x.toUInt32 >>> ((nI k).toUInt32 &&& Int32.toUInt32 31)).toInt32) = z at h2 ⊢
  have h3 : x.toBitVec.toNat < 2 ^ 32 := x.toBitVec.isLt
  have h4 : z.toBitVec.toNat < 2 ^ (32 - k) := by
    rw [h2]
    apply Nat.div_lt_of_lt_mul
    rw [← Nat.pow_add]
    rw [show k + (32 - k) = 32 by omega]
    exact h3
  have h5 : z = nI z.toBitVec.toNat := by
    apply Int32.toBitVec_inj.mp
    show _ = BitVec.ofNat 32 _
    rw [BitVec.ofNat_toNat, BitVec.setWidth_eq]
  have h6 : (2 : Nat) ^ (32 - k) ≤ 2 ^ 31 := Nat.pow_le_pow_right (by omega) (by omega)
  have h7 : z.toInt = (z.toBitVec.toNat : Int) := by
    rw [h5, nI_toInt (by omega), ← h5]
  have h8 : ((2 : Int) ^ (32 - k)) = ((2 ^ (32 - k) : Nat) : Int) := by rw [Int.natCast_pow]; rfl
  rw [h8]
  omega
theorem ai_tdiv_mono {a b c : Int} (hc : 1 ≤ c) (h : a ≤ b) : a.tdiv c ≤ b.tdiv c := Int.tdiv_le_tdiv (by omega) h
theorem ai_div {x y : Int32} (hy : 1 ≤ y.toInt) : (x / y).toInt = x.toInt.tdiv y.toInt := Int32.toInt_div_of_ne_right x y (fun e => by rw [e] at hy; exact absurd hy (by decide))
theorem ai_eml {a b : Int} (ha : 0 ≤ a) (hb : 0 < b) : a % b ≤ a := by
  have h1 := Int.emod_add_mul_ediv a b
  have h2 : 0 ≤ a / b := Int.ediv_nonneg ha (by omega)
  have h3 : 0 ≤ b * (a / b) := Int.mul_nonneg (by omega) h2
  omega
theorem ai_rem {x y : Int32} (hy : 1 ≤ y.toInt) : (x - x / y * y).toInt = x.toInt.tmod y.toInt := by
  have hd := ai_div (x := x) hy
  have rx := ai_rng x
  have ry := ai_rng y
  have hm : x.toInt.tmod y.toInt = x.toInt - y.toInt * x.toInt.tdiv y.toInt := Int.tmod_def _ _
  have hq : x.toInt.tdiv y.toInt * y.toInt = x.toInt - x.toInt.tmod y.toInt := by rw [hm, Int.mul_comm]; omega
  have b1 : x.toInt.tmod y.toInt < y.toInt := Int.tmod_lt_of_pos _ (by omega)
  have b2 : -y.toInt < x.toInt.tmod y.toInt := Int.lt_tmod_of_pos _ (by omega)
  have hs : (0 ≤ x.toInt → 0 ≤ x.toInt.tmod y.toInt ∧ x.toInt.tmod y.toInt ≤ x.toInt) ∧ (x.toInt ≤ 0 → x.toInt ≤ x.toInt.tmod y.toInt ∧ x.toInt.tmod y.toInt ≤ 0) := by
    constructor
    · intro h0
      rw [Int.tmod_eq_emod_of_nonneg h0]
      exact ⟨Int.emod_nonneg _ (by omega), ai_eml h0 (by omega)⟩
    · intro h0
      have e1 : x.toInt.tmod y.toInt = -((-x.toInt).tmod y.toInt) := by rw [Int.neg_tmod]; omega
      rw [e1, Int.tmod_eq_emod_of_nonneg (by omega)]
      have g1 := Int.emod_nonneg (-x.toInt) (show y.toInt ≠ 0 by omega)
      have g2 : (-x.toInt) % y.toInt ≤ -x.toInt := ai_eml (by omega) (by omega)
      omega
  have hmul : (x / y * y).toInt = x.toInt.tdiv y.toInt * y.toInt := by
    rw [ai_mul, hd]
    · rw [hd, hq]; rcases Int.le_total 0 x.toInt with q | q
      · have := hs.1 q; omega
      · have := hs.2 q; omega
    · rw [hd, hq]; rcases Int.le_total 0 x.toInt with q | q
      · have := hs.1 q; omega
      · have := hs.2 q; omega
  rw [ai_sub, hmul, hq]
  · omega
  · rw [hmul, hq]; omega
  · rw [hmul, hq]; omega
theorem an_iv2_ok {o : Nat} {la ha lb hb : Int} {x y : Int32} (h1 : la ≤ x.toInt) (h2 : x.toInt ≤ ha) (h3 : lb ≤ y.toInt) (h4 : y.toInt ≤ hb) : (an_iv2 o la ha lb hb).1 ≤ (an_f o x y).toInt ∧ (an_f o x y).toInt ≤ (an_iv2 o la ha lb hb).2 := by
  have rx := ai_rng x
  have ry := ai_rng y
  unfold an_iv2
  split
  · refine an_cl_ok (fun q1 q2 => ?_)
    show la + lb ≤ (x + y).toInt ∧ _
    rw [show an_f 0 x y = x + y from rfl, ai_add (by omega) (by omega)]
    omega
  · refine an_cl_ok (fun q1 q2 => ?_)
    rw [show an_f 1 x y = x - y from rfl, ai_sub (by omega) (by omega)]
    omega
  · refine an_cl_ok (fun q1 q2 => ?_)
    have hm := ai_mulb h1 h2 h3 h4
    rw [show an_f 2 x y = x * y from rfl, ai_mul (by omega) (by omega)]
    exact hm
  · show _ ≤ (x &&& y).toInt ∧ (x &&& y).toInt ≤ _
    have sw : x &&& y = y &&& x := by
      apply Int32.toBitVec_inj.mp
      rw [Int32.toBitVec_and, Int32.toBitVec_and, BitVec.and_comm]
    split
    · rename_i q1 q2
      rw [an_le_iff] at q1 q2
      have a1 := ai_and (x := x) (y := y) (by omega)
      have a2 := ai_and (x := y) (y := x) (by omega)
      rw [← sw] at a2
      have m := an_min_le ha hb
      dsimp only
      omega
    · rename_i q1 q2
      rw [an_le_iff] at q1
      have a1 := ai_and (x := x) (y := y) (by omega)
      dsimp only
      omega
    · rename_i q1 q2
      rw [an_le_iff] at q2
      have a2 := ai_and (x := y) (y := x) (by omega)
      rw [← sw] at a2
      dsimp only
      omega
    · exact an_full_ok _
  · show _ ≤ (x ||| y).toInt ∧ (x ||| y).toInt ≤ _
    split
    · rename_i q
      rw [Bool.and_eq_true, an_le_iff, an_le_iff] at q
      obtain ⟨a, ha1, ea, ea'⟩ := ai_nn (x := x) (by omega)
      obtain ⟨b, hb1, eb, eb'⟩ := ai_nn (x := y) (by omega)
      have m := an_max_le (an_min ha 2147483647) (an_min hb 2147483647)
      have mx := an_max_le ha hb
      rcases Classical.em ((an_max ha hb).toNat < 2 ^ 31) with hs | hs
      · obtain ⟨j, hj, e1, e2⟩ := an_p2_ok 31 (an_max ha hb).toNat 1 0 rfl rfl hs
        have o1 := ai_or x y ea eb hj (by omega) (by omega)
        have h4 : ((2 : Int) ^ j) = ((2 ^ j : Nat) : Int) := by rw [Int.natCast_pow]; rfl
        rw [e1]
        rw [h4] at o1
        have hp : 0 < 2 ^ j := Nat.pow_pos (by omega)
        refine ⟨o1.1, ?_⟩
        show (x ||| y).toInt ≤ ((2 ^ j - 1 : Nat) : Int)
        omega
      · -- the bound is beyond all ints
        have o1 := ai_or x y ea eb (j := 31) (by omega) (by omega) (by omega)
        refine ⟨o1.1, ?_⟩
        have big : ∀ (f h p k : Nat), p = 2 ^ k → k + f = 31 → 2 ^ 31 ≤ h → an_p2 f h p = 2147483647 := by
          intro f
          induction f with
          | zero => intro h p k _ _ _; rfl
          | succ f ih =>
            intro h p k hp hk hh
            unfold an_p2
            have hk2 : (2 : Nat) ^ k ≤ 2 ^ 31 := Nat.pow_le_pow_right (by omega) (by omega)
            split
            · rename_i q
              have := Nat.le_of_ble_eq_true q
              omega
            · exact ih h (p + p) (k + 1) (by rw [hp, Nat.pow_succ]; omega) (by omega) hh
        rw [big 31 _ 1 0 rfl rfl (by omega)]
        show (x ||| y).toInt ≤ 2147483647
        omega
    · exact an_full_ok _
  · split
    · rename_i q
      rw [Bool.and_eq_true, an_eq_iff, an_eq_iff] at q
      have e1 : (Int.negSucc 0) = -1 := rfl
      have hy := ai_neg1 (y := y) (by omega)
      show _ ≤ (x ^^^ y).toInt ∧ (x ^^^ y).toInt ≤ _
      rw [hy, ai_not]
      dsimp only
      omega
    · exact an_full_ok _
  · split
    · rename_i q
      simp only [Bool.and_eq_true, an_le_iff, an_mx_eq] at q
      obtain ⟨⟨⟨q1, q2⟩, q3⟩, q4⟩ := q
      obtain ⟨a, ha1, ea, ea'⟩ := ai_nn (x := x) (by omega)
      obtain ⟨b, hb1, eb, eb'⟩ := ai_nn (x := y) (by omega)
      have p1 : (2 : Nat) ^ lb.toNat ≤ 2 ^ b := Nat.pow_le_pow_right (by omega) (by omega)
      have p2 : (2 : Nat) ^ b ≤ 2 ^ hb.toNat := Nat.pow_le_pow_right (by omega) (by omega)
      have u1 : (a : Int) * ((2 ^ b : Nat) : Int) ≤ ha * ((2 ^ hb.toNat : Nat) : Int) := Int.mul_le_mul (by omega) (by omega) (Int.natCast_nonneg _) (by omega)
      have u2 : la * ((2 ^ lb.toNat : Nat) : Int) ≤ (a : Int) * ((2 ^ b : Nat) : Int) := Int.mul_le_mul (by omega) (by omega) (Int.natCast_nonneg _) (by omega)
      have u3 : ((a * 2 ^ b : Nat) : Int) = (a : Int) * ((2 ^ b : Nat) : Int) := Int.natCast_mul _ _
      have u4 : ha * ((2 ^ hb.toNat : Nat) : Int) ≤ 2147483647 := q4
      show _ ≤ (x <<< (y &&& 31)).toInt ∧ (x <<< (y &&& 31)).toInt ≤ _
      rw [ai_shl ea eb (by omega) (by omega), u3]
      exact ⟨u2, u1⟩
    · exact an_full_ok _
  · split
    · rename_i q
      rw [an_le_iff] at q
      have := ai_shr (x := x) (y := y) (by omega)
      show 0 ≤ (x >>> (y &&& 31)).toInt ∧ (x >>> (y &&& 31)).toInt ≤ ha
      omega
    · exact an_full_ok _
  · split
    · rename_i q
      simp only [Bool.and_eq_true, an_le_iff, an_eq_iff] at q
      obtain ⟨b, hb1, eb, eb'⟩ := ai_nn (x := y) (by omega)
      have hlb : lb.toNat = b := by omega
      have u := ai_ush (x := x) eb (by omega) (by omega)
      have h8 : ((2 : Int) ^ (32 - b)) = ((2 ^ (32 - b) : Nat) : Int) := by rw [Int.natCast_pow]; rfl
      rw [h8] at u
      have hp : 0 < 2 ^ (32 - b) := Nat.pow_pos (by omega)
      rw [hlb]
      refine ⟨u.1, ?_⟩
      show (pm_ush x y).toInt ≤ ((2 ^ (32 - b) - 1 : Nat) : Int)
      omega
    · exact an_full_ok _
  · split
    · rename_i q
      simp only [Bool.and_eq_true, an_le_iff, an_eq_iff] at q
      have e : y.toInt = lb := by omega
      show _ ≤ (x / y).toInt ∧ (x / y).toInt ≤ _
      rw [ai_div (by omega), e]
      exact ⟨ai_tdiv_mono q.2 h1, ai_tdiv_mono q.2 h2⟩
    · split
      · rename_i q
        simp only [Bool.and_eq_true, an_le_iff] at q
        show 0 ≤ (x / y).toInt ∧ (x / y).toInt ≤ ha
        rw [ai_div (by omega)]
        have t1 := Int.tdiv_nonneg (a := x.toInt) (b := y.toInt) (by omega) (by omega)
        have t2 := Int.tdiv_le_self (a := x.toInt) y.toInt (by omega)
        omega
      · exact an_full_ok _
  · split
    · rename_i q
      rw [an_le_iff] at q
      have b1 : x.toInt.tmod y.toInt < y.toInt := Int.tmod_lt_of_pos _ (by omega)
      have b2 : -y.toInt < x.toInt.tmod y.toInt := Int.lt_tmod_of_pos _ (by omega)
      show _ ≤ (x - x / y * y).toInt ∧ (x - x / y * y).toInt ≤ _
      rw [ai_rem (by omega)]
      split
      · rename_i q2
        rw [an_le_iff] at q2
        have m := an_min_le ha (hb - 1)
        have n1 := Int.tmod_nonneg y.toInt (show 0 ≤ x.toInt by omega)
        have n2 : x.toInt.tmod y.toInt ≤ x.toInt := by
          rw [Int.tmod_eq_emod_of_nonneg (by omega)]
          exact ai_eml (by omega) (by omega)
        dsimp only
        omega
      · dsimp only
        omega
    · exact an_full_ok _
  · show _ ≤ (pm_min x y).toInt ∧ (pm_min x y).toInt ≤ _
    have m1 := an_min_le la lb
    have m2 := an_min_le ha hb
    unfold pm_min
    split
    · rename_i q; rw [Int32.lt_iff_toInt_lt] at q; dsimp only; omega
    · rename_i q; rw [Int32.lt_iff_toInt_lt] at q; dsimp only; omega
  · show _ ≤ (pm_max x y).toInt ∧ (pm_max x y).toInt ≤ _
    have m1 := an_max_le la lb
    have m2 := an_max_le ha hb
    unfold pm_max
    split
    · rename_i q; rw [Int32.lt_iff_toInt_lt] at q; dsimp only; omega
    · rename_i q; rw [Int32.lt_iff_toInt_lt] at q; dsimp only; omega
  · split
    · rename_i q
      rw [an_le_iff] at q
      show la ≤ (pm_abs x).toInt ∧ (pm_abs x).toInt ≤ ha
      unfold pm_abs
      rw [if_pos (by rw [Int32.le_iff_toInt_le, show (0 : Int32).toInt = 0 from rfl]; omega)]
      omega
    · exact an_full_ok _
  · show 0 ≤ ((x.toUInt32 % 65536).toInt32).toInt ∧ ((x.toUInt32 % 65536).toInt32).toInt ≤ 65535
    rw [pk_char, nI_toInt (by omega)]
    omega
  · split
    · rename_i q
      rw [an_le_iff] at q
      show -ha ≤ (-x).toInt ∧ (-x).toInt ≤ -la
      rw [Int32.toInt_neg, ai_bmod (by omega) (by omega)]
      omega
    · exact an_full_ok _
  · split
    · rename_i q
      rw [Bool.and_eq_true, an_le_iff, an_le_iff] at q
      obtain ⟨a, ha1, ea, ea'⟩ := ai_nn (x := x) (by omega)
      have h5 : x.toNatClampNeg = a := by show x.toInt.toNat = a; omega
      have h6 := an_lg_1 a (by omega)
      have h7 := an_lg_m (a := a) (b := ha.toNat) (by omega) (by omega)
      have h8 : an_lg ha.toNat ≤ 10 := by
        have := an_lg_m (a := ha.toNat) (b := 1023) (by omega) (by omega)
        have e : an_lg 1023 = 10 := by decide +kernel
        omega
      show 0 ≤ (nI (pc_N x.toNatClampNeg)).toInt ∧ (nI (pc_N x.toNatClampNeg)).toInt ≤ ((an_lg ha.toNat : Nat) : Int)
      rw [h5, nI_toInt (by omega)]
      omega
    · exact an_full_ok _
  · exact an_full_ok _
