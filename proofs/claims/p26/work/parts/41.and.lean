/-! THE ANALYSER, 2: symbolic values, what is known of them -/
/-- (0, s, c): symbol s and c; (1, _, c): the number c; (2, p, _): the object p; (3, k, _): a text; (4, _, _): a long; else: anything of one word -/
abbrev an_V : Type := Nat × Nat × Int
/-- how many symbols; intervals; relations (1: s ≤ s' + c; 2: |s| < |s'|; 3: s ≠ c; 100 + m: s = m s' + c; 200 + m: s ≤ m s' + c); computed symbols; cells -/
abbrev an_A : Type := Nat × List (Nat × Int × Int) × List (Nat × Nat × Nat × Int) × List (Nat × an_V × an_V × Nat) × List (Nat × an_V × an_V)
/-- bounds of all cells, by place: (row?, bounds) -/
abbrev an_B : Type := List (Bool × List (Int × Int))
def an_isI (a : an_V) : Bool := Nat.ble a.1 1
def an_fd : List (Nat × Int × Int) → Nat → Option (Int × Int)
  | [], _ => none
  | q :: qs, s => match Nat.beq q.1 s with
    | true => some q.2
    | false => an_fd qs s
def an_rg (F : List (Nat × Int × Int)) (a : an_V) : Int × Int := match a.1 with
  | 0 => match an_fd F a.2.1 with
    | some (l, h) => (l + a.2.2, h + a.2.2)
    | none => an_full
  | _ => (a.2.2, a.2.2)
def an_veq (a b : an_V) : Bool := Nat.beq a.1 b.1 && Nat.beq a.2.1 b.2.1 && an_eq a.2.2 b.2.2
theorem an_veq_ok {a b : an_V} (h : an_veq a b = true) : a = b := by
  unfold an_veq at h
  simp only [Bool.and_eq_true] at h
  have h1 := Nat.eq_of_beq_eq_true h.1.1
  have h2 := Nat.eq_of_beq_eq_true h.1.2
  have h3 := an_eq_iff.mp h.2
  obtain ⟨a1, a2, a3⟩ := a
  obtain ⟨b1, b2, b3⟩ := b
  simp only at h1 h2 h3
  rw [h1, h2, h3]
def an_cse : List (Nat × an_V × an_V × Nat) → Nat → an_V → an_V → Option Nat
  | [], _, _, _ => none
  | q :: qs, o, a, b => match Nat.beq q.1 o && an_veq q.2.1 a && an_veq q.2.2.1 b with
    | true => some q.2.2.2
    | false => an_cse qs o a b
def an_new (A : an_A) (l h : Int) (k : an_A → an_V → Bool) : Bool := an_fI l (fun l => an_fI h (fun h => match an_eq l h with
  | true => k A (1, 0, l)
  | false => an_fN (A.1 + 1) (fun n => k (n, (A.1, l, h) :: A.2.1, A.2.2) (0, A.1, 0))))
/-- a is known not to be the number z -/
def an_dsR : List (Nat × Nat × Nat × Int) → Nat → Int → Bool
  | [], _, _ => false
  | q :: qs, s, c => match Nat.beq q.1 3 && Nat.beq q.2.1 s && an_eq q.2.2.2 c with
    | true => true
    | false => an_dsR qs s c
/-- b is not 0 -/
def an_nz (A : an_A) (b : an_V) : Bool := match an_rg A.2.1 b with
  | (l, h) => an_le 1 l || an_le h (-1) || (Nat.beq b.1 0 && an_dsR A.2.2.1 b.2.1 (0 - b.2.2))
/-- x and -x: 1 at least -/
def an_lo3 (o : Nat) (a b : an_V) (A : an_A) (l : Int) : Int := match o with
  | 3 => match an_cse A.2.2.2.1 15 a (1, 0, 0) with
    | some s => match an_veq b (0, s, 0) && an_le 1 (an_rg A.2.1 a).1 && an_le (an_rg A.2.1 a).2 1023 with
      | true => an_max l 1
      | false => l
    | none => l
  | _ => l
/-- what is known of a result beside its interval -/
def an_rl (o : Nat) (a b : an_V) (A : an_A) : List (Nat × Nat × Nat × Int) := match o with
  | 3 => (match a.1, an_le 0 (an_rg A.2.1 a).1 with
    | 0, true => [(1, A.1, a.2.1, a.2.2)]
    | _, _ => []) ++ (match b.1, an_le 0 (an_rg A.2.1 b).1 with
    | 0, true => [(1, A.1, b.2.1, b.2.2)]
    | _, _ => [])
  | 10 => (match b.1, an_le 1 (an_rg A.2.1 b).1 with
    | 0, true => [(1, A.1, b.2.1, b.2.2 - 1)]
    | _, _ => []) ++ (match b.1, an_eq b.2.2 0 && an_nz A b with
    | 0, true => [(2, A.1, b.2.1, 0)]
    | _, _ => [])
  | _ => []
def an_gen (o : Nat) (a b : an_V) (A : an_A) (k : an_A → an_V → Bool) : Bool := match an_cse A.2.2.2.1 o a b with
  | some s => k A (0, s, 0)
  | none => match an_rg A.2.1 a, an_rg A.2.1 b with
    | (la, ha), (lb, hb) => match an_iv2 o la ha lb hb with
      | (l, h) => an_fI (an_lo3 o a b A l) (fun l => an_fI h (fun h => match an_eq l h with
        | true => k A (1, 0, l)
        | false => an_fN (A.1 + 1) (fun n => k (n, (A.1, l, h) :: A.2.1, an_rl o a b A ++ A.2.2.1, (o, a, b, A.1) :: A.2.2.2.1, A.2.2.2.2) (0, A.1, 0))))
/-- a and a number more -/
def an_off (a : an_V) (d : Int) (A : an_A) (k : an_A → an_V → Bool) (els : Bool) : Bool := match an_rg A.2.1 a with
  | (l, h) => match an_le an_mn (l + d) && an_le (h + d) an_mx with
    | true => an_fI (a.2.2 + d) (fun c => k A (a.1, a.2.1, c))
    | false => els
def an_bin (o : Nat) (a b : an_V) (A : an_A) (k : an_A → an_V → Bool) : Bool := match a.1, b.1 with
  | 1, 1 => an_fI (an_f o (Int32.ofInt a.2.2) (Int32.ofInt b.2.2)).toInt (fun c => k A (1, 0, c))
  | 0, 1 => match o with
    | 0 => an_off a b.2.2 A k (an_gen o a b A k)
    | 1 => an_off a (-b.2.2) A k (an_gen o a b A k)
    | 14 => match an_le 0 (an_rg A.2.1 a).1 && an_le (an_rg A.2.1 a).2 65535 with
      | true => k A a
      | false => an_gen o a b A k
    | _ => an_gen o a b A k
  | 1, 0 => match o with
    | 0 => an_off b a.2.2 A k (an_gen o a b A k)
    | _ => an_gen o a b A k
  | 0, 0 => an_gen o a b A k
  | _, _ => false
/-- the number that a symbol must be, by what it is a multiple of -/
def an_kr (F : List (Nat × Int × Int)) (u : Nat) : List (Nat × Nat × Nat × Int) → Option Int
  | [] => none
  | q :: qs => match Nat.beq q.2.1 u && Nat.ble 101 q.1 && Nat.ble q.1 199 with
    | true => match an_fd F q.2.2.1 with
      | some (l, h) => match an_eq l h with
        | true => some (.ofNat (q.1 - 100) * l + q.2.2.2)
        | false => none
      | none => none
    | false => an_kr F u qs
def an_kv (A : an_A) (v : an_V) : Option Int := match v.1 with
  | 1 => some v.2.2
  | 0 => match an_rg A.2.1 v with
    | (l, h) => match an_eq l h with
      | true => some l
      | false => match an_kr A.2.1 v.2.1 A.2.2.1 with
        | some x => some (x + v.2.2)
        | none => none
  | _ => none
/-- a symbol with one value is that number -/
def an_nm (A : an_A) (a : an_V) (k : an_V → Bool) : Bool := match a.1 with
  | 0 => match an_kv A a with
    | some l => an_fI l (fun l => k (1, 0, l))
    | none => k a
  | _ => k a
/-! what may be so: conditions -/
def an_sHi (A : an_A) (a : an_V) (h : Int) : Option an_A := match an_rg A.2.1 a with
  | (l, g) => match an_le l h with
    | false => none
    | true => match a.1 with
      | 0 => match an_le g h with
        | true => some A
        | false => an_fI (l - a.2.2) (fun l => an_fI (h - a.2.2) (fun h => some (A.1, (a.2.1, l, h) :: A.2.1, A.2.2)))
      | _ => some A
def an_sLo (A : an_A) (a : an_V) (l : Int) : Option an_A := match an_rg A.2.1 a with
  | (g, h) => match an_le l h with
    | false => none
    | true => match a.1 with
      | 0 => match an_le l g with
        | true => some A
        | false => an_fI (l - a.2.2) (fun l => an_fI (h - a.2.2) (fun h => some (A.1, (a.2.1, l, h) :: A.2.1, A.2.2)))
      | _ => some A
/-- a + e ≤ b -/
def an_rle (A : an_A) (a b : an_V) (e : Int) : Option an_A := match Nat.beq (a.1 + b.1) 0 && Nat.beq a.2.1 b.2.1 with
  | true => match an_le (a.2.2 + e) b.2.2 with
    | true => some A
    | false => none
  | false => match an_sHi A a ((an_rg A.2.1 b).2 - e) with
    | none => none
    | some A1 => an_sLo A1 b ((an_rg A.2.1 a).1 + e)
/-- a is not the number z -/
def an_rnz (A : an_A) (a : an_V) (z : Int) : Option an_A := match an_rg A.2.1 a with
  | (l, h) => match an_eq l z with
    | true => an_sLo A a (z + 1)
    | false => match an_eq h z with
      | true => an_sHi A a (z - 1)
      | false => match a.1 with
        | 0 => an_fI (z - a.2.2) (fun c => some (A.1, A.2.1, (3, a.2.1, a.2.1, c) :: A.2.2.1, A.2.2.2))
        | _ => some A
def an_dis (A : an_A) (a b : an_V) : Bool := match a.1, b.1 with
  | 0, 1 => an_dsR A.2.2.1 a.2.1 (b.2.2 - a.2.2)
  | 1, 0 => an_dsR A.2.2.1 b.2.1 (a.2.2 - b.2.2)
  | _, _ => false
def an_rne (A : an_A) (a b : an_V) : Option an_A := match Nat.beq (a.1 + b.1) 0 && Nat.beq a.2.1 b.2.1 with
  | true => match an_eq a.2.2 b.2.2 with
    | true => none
    | false => some A
  | false => match an_rg A.2.1 b with
    | (l, h) => match an_eq l h with
      | true => an_rnz A a l
      | false => match an_rg A.2.1 a with
        | (l2, h2) => match an_eq l2 h2 with
          | true => an_rnz A b l2
          | false => some A
/-- 0 =, 1 ≠, 2 <, 3 ≥, 4 >, 5 ≤ -/
def an_ref (n : Nat) (a b : an_V) (A : an_A) : Option an_A := match n with
  | 0 => match an_dis A a b with
    | true => none
    | false => match an_rle A a b 0 with
      | none => none
      | some A1 => an_rle A1 b a 0
  | 1 => an_rne A a b
  | 2 => an_rle A a b 1
  | 3 => an_rle A b a 0
  | 4 => an_rle A b a 1
  | _ => an_rle A a b 0
def an_cn (c : Jvm.ClassFile.Cond) : Nat := match c with
  | .eq => 0
  | .ne => 1
  | .lt => 2
  | .ge => 3
  | .gt => 4
  | .le => 5
def an_ng (n : Nat) : Nat := match n with
  | 0 => 1
  | 1 => 0
  | 2 => 3
  | 3 => 2
  | 4 => 5
  | _ => 4
def an_br (n : Nat) (a b : an_V) (A : an_A) (kt kf : an_A → Bool) : Bool := (match an_ref n a b A with
  | none => true
  | some A1 => kt A1) && (match an_ref (an_ng n) a b A with
  | none => true
  | some A1 => kf A1)
def an_sw (a : an_V) (nx : Nat → an_A → Bool) (d : Nat) : List Int → List Nat → an_A → Bool
  | k :: ks, t :: ts, A => an_le (-1000) k && an_le k 1000 && an_br 0 a (1, 0, k) A (nx t) (an_sw a nx d ks ts)
  | _, _, A => nx d A
/-- a symbol is at most h, by what it is at most -/
def an_ub (F : List (Nat × Int × Int)) (a : an_V) (h : Int) : List (Nat × Nat × Nat × Int) → Bool
  | [] => false
  | q :: qs => (Nat.beq a.1 0 && Nat.beq q.2.1 a.2.1 && (match an_fd F q.2.2.1 with
    | none => false
    | some r => (Nat.beq q.1 1 && an_le (r.2 + q.2.2.2 + a.2.2) h) || (Nat.ble 101 q.1 && Nat.ble q.1 199 && an_le (.ofNat (q.1 - 100) * r.2 + q.2.2.2 + a.2.2) h) || (Nat.ble 201 q.1 && an_le (.ofNat (q.1 - 200) * r.2 + q.2.2.2 + a.2.2) h))) || an_ub F a h qs
def an_in (A : an_A) (a : an_V) (l h : Int) : Bool := an_isI a && an_le l (an_rg A.2.1 a).1 && (an_le (an_rg A.2.1 a).2 h || an_ub A.2.1 a h A.2.2.1)
/-! cells -/
def an_bd (B : an_B) (p j : Nat) : Int × Int := match pm_nth B p with
  | some (true, q :: _) => q
  | some (false, qs) => match pm_nth qs j with
    | some q => q
    | none => an_full
  | _ => an_full
/-- cells: (place, index, what it holds) -/
abbrev an_C : Type := List (Nat × an_V × an_V)
def an_nj (j : Nat) : an_V := (1, 0, .ofNat j)
def an_cell : an_C → Nat → an_V → Option an_V
  | [], _, _ => none
  | q :: qs, p, j => match Nat.beq q.1 p && an_veq q.2.1 j with
    | true => some q.2.2
    | false => an_cell qs p j
/-- what stays where place p is written at j -/
def an_drop (p j : Nat) : an_C → an_C
  | [] => []
  | q :: qs => match Nat.beq q.1 p && !(Nat.beq q.2.1.1 1 && !(an_eq q.2.1.2.2 (.ofNat j))) with
    | true => an_drop p j qs
    | false => q :: an_drop p j qs
def an_dropR (p : Nat) : an_C → an_C
  | [] => []
  | q :: qs => match Nat.beq q.1 p with
    | true => an_dropR p qs
    | false => q :: an_dropR p qs
/-- a set of cells: 9999 is any -/
def an_inF (F : List (Nat × Nat)) (p j : Nat) : Bool := F.any (fun q => (Nat.beq q.1 p || Nat.beq q.1 9999) && (Nat.beq q.2 j || Nat.beq q.2 9999))
def an_inR (F : List (Nat × Nat)) (p : Nat) : Bool := F.any (fun q => (Nat.beq q.1 p || Nat.beq q.1 9999) && Nat.beq q.2 9999)
def an_inP (F : List (Nat × Nat)) (p : Nat) : Bool := F.any (fun q => Nat.beq q.1 p || Nat.beq q.1 9999)
def an_dropF (F : List (Nat × Nat)) : an_C → an_C
  | [] => []
  | q :: qs => match (match q.2.1.1 with
      | 1 => an_inF F q.1 q.2.1.2.2.toNat
      | _ => an_inP F q.1) with
    | true => an_dropF F qs
    | false => q :: an_dropF F qs
def an_setC (A : an_A) (C : an_C) : an_A := (A.1, A.2.1, A.2.2.1, A.2.2.2.1, C)
