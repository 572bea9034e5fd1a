/-! THE ABSTRACT MACHINE. A heap is a list of cells; a reference is the place of its cell in it. A step, in continuation form, with any answer type. -/
abbrev pm_un : Value := .retAddr 7777
def pm_s1 (L : List Value) (i : Nat) (v : Value) : Option (List Value) := match pm_nth L i with
  | none => none
  | some _ => match i with
    | 0 => some (L.set 0 v)
    | j + 1 => match pm_nth L j with
      | some w => match Nat.beq w.category 1 with
        | true => some (L.set (j + 1) v)
        | false => none
      | none => none
def pm_s2 (L : List Value) (i : Nat) (v : Int64) : Option (List Value) := match pm_nth L (i + 1) with
  | none => none
  | some _ => match pm_s1 L i (.long v) with
    | none => none
    | some L1 => some (L1.set (i + 1) pm_un)
def pm_ldi (L : List Value) (i : Nat) (st : List Value) : Option (List Value × List Value) := match pm_nth L i with
  | some (.int v) => some (L, .int v :: st)
  | _ => none
def pm_ldl (L : List Value) (i : Nat) (st : List Value) : Option (List Value × List Value) := match pm_nth L i with
  | some (.long v) => some (L, .long v :: st)
  | _ => none
def pm_lda (L : List Value) (i : Nat) (st : List Value) : Option (List Value × List Value) := match pm_nth L i with
  | some (.ref v) => some (L, .ref v :: st)
  | some (.retAddr k) => match Nat.ble k 19 || Nat.beq k 30 with
    | true => some (L, .retAddr k :: st)
    | false => none
  | _ => none
def pm_sti (L : List Value) (i : Nat) (st : List Value) : Option (List Value × List Value) := match st with
  | .int v :: st => match pm_s1 L i (.int v) with
    | some L1 => some (L1, st)
    | none => none
  | _ => none
def pm_sta (L : List Value) (i : Nat) (st : List Value) : Option (List Value × List Value) := match st with
  | .ref v :: st => match pm_s1 L i (.ref v) with
    | some L1 => some (L1, st)
    | none => none
  | _ => none
def pm_stl (L : List Value) (i : Nat) (st : List Value) : Option (List Value × List Value) := match st with
  | .long v :: st => match pm_s2 L i v with
    | some L1 => some (L1, st)
    | none => none
  | _ => none
def pm_i2 (f : Int32 → Int32 → Int32) (L st : List Value) : Option (List Value × List Value) := match st with
  | .int b :: .int a :: st => some (L, .int (f a b) :: st)
  | _ => none
def pm_l2 (f : Int64 → Int64 → Int64) (L st : List Value) : Option (List Value × List Value) := match st with
  | .long b :: .long a :: st => some (L, .long (f a b) :: st)
  | _ => none
def pm_lsh (f : Int64 → Int64 → Int64) (L st : List Value) : Option (List Value × List Value) := match st with
  | .int b :: .long a :: st => some (L, .long (f a (b.toInt64 &&& 63)) :: st)
  | _ => none
def pm_ush (a b : Int32) : Int32 := (a.toUInt32 >>> (b.toUInt32 &&& Int32.toUInt32 31)).toInt32
def pm_iinc (L : List Value) (i : Nat) (n : Int) (st : List Value) : Option (List Value × List Value) := match pm_nth L i with
  | some (.int v) => match pm_s1 L i (.int (v + Int32.ofInt n)) with
    | some L1 => some (L1, st)
    | none => none
  | _ => none
/-- instructions that touch neither heap nor control -/
def pm_pu (ins : Instr) (x y : Nat) (L st : List Value) : Option (List Value × List Value) := match ins with
  | .iconst _ => some (L, .int (pm_iv x y) :: st)
  | .bipush _ => some (L, .int (pm_iv x y) :: st)
  | .sipush _ => some (L, .int (pm_iv x y) :: st)
  | .lconst _ => some (L, .long (pm_lv x y) :: st)
  | .ldc _ => match y with
    | 7 => some (L, .retAddr x :: st)
    | _ => some (L, .int (nI x) :: st)
  | .ldc_w _ => some (L, .int (nI x) :: st)
  | .ldc2_w _ => some (L, .long (pm_lv x y) :: st)
  | .getstatic _ => match x with
    | 0 => some (L, .int 1 :: st)
    | _ => some (L, .retAddr 20 :: st)
  | .iload_n k => pm_ldi L k.val st
  | .iload k => pm_ldi L k st
  | .lload_n k => pm_ldl L k.val st
  | .lload k => pm_ldl L k st
  | .aload_n k => pm_lda L k.val st
  | .aload k => pm_lda L k st
  | .istore_n k => pm_sti L k.val st
  | .istore k => pm_sti L k st
  | .lstore_n k => pm_stl L k.val st
  | .lstore k => pm_stl L k st
  | .astore_n k => pm_sta L k.val st
  | .astore k => pm_sta L k st
  | .iinc k n => pm_iinc L k n st
  | .iadd => pm_i2 (fun a b => a + b) L st
  | .isub => pm_i2 (fun a b => a - b) L st
  | .imul => pm_i2 (fun a b => a * b) L st
  | .iand => pm_i2 (fun a b => a &&& b) L st
  | .ior => pm_i2 (fun a b => a ||| b) L st
  | .ixor => pm_i2 (fun a b => a ^^^ b) L st
  | .ishl => pm_i2 (fun a b => a <<< (b &&& 31)) L st
  | .ishr => pm_i2 (fun a b => a >>> (b &&& 31)) L st
  | .iushr => pm_i2 pm_ush L st
  | .ineg => match st with
    | .int a :: st => some (L, .int (-a) :: st)
    | _ => none
  | .ladd => pm_l2 (fun a b => a + b) L st
  | .lsub => pm_l2 (fun a b => a - b) L st
  | .lmul => pm_l2 (fun a b => a * b) L st
  | .land => pm_l2 (fun a b => a &&& b) L st
  | .lor => pm_l2 (fun a b => a ||| b) L st
  | .lshl => pm_lsh (fun a b => a <<< b) L st
  | .lshr => pm_lsh (fun a b => a >>> b) L st
  | .lcmp => match st with
    | .long b :: .long a :: st => some (L, .int (lg_cmp a b) :: st)
    | _ => none
  | .i2l => match st with
    | .int a :: st => some (L, .long a.toInt64 :: st)
    | _ => none
  | .i2c => match st with
    | .int a :: st => some (L, .int (a.toUInt32 % 65536).toInt32 :: st)
    | _ => none
  | .dup => match st with
    | .int a :: st => some (L, .int a :: .int a :: st)
    | .ref a :: st => some (L, .ref a :: .ref a :: st)
    | _ => none
  | .dup2 => match st with
    | .int b :: .ref a :: st => some (L, .int b :: .ref a :: .int b :: .ref a :: st)
    | _ => none
  | .pop => match st with
    | .int _ :: st => some (L, st)
    | _ => none
  | .pop2 => match st with
    | .long _ :: st => some (L, st)
    | _ => none
  | _ => none
/-- heap operations: field (class, slot), put, int or boolean row (kind, length, contents), its new contents, long row, new contents, a new cell, the class of an object; the script -/
abbrev pm_O (η : Type) : Type := (η → Nat → Nat → Nat → Option Value) × (η → Nat → Nat → Nat → Value → Option η) × (η → Nat → Option (Nat × Nat × (Nat → Int32))) × (η → Nat → (Nat → Int32) → η) × (η → Nat → Option (Nat × (Nat → Int64))) × (η → Nat → (Nat → Int64) → η) × (η → va_E → Option (Nat × η)) × (η → Nat → Option Nat) × Option (Nat × (Nat → Int32))
def pm_cc (c : Jvm.ClassFile.Cond) (a b : Int32) : Prop := match c with
  | .eq => a = b
  | .ne => ¬ a = b
  | .lt => a < b
  | .ge => b ≤ a
  | .gt => b < a
  | .le => a ≤ b
def pm_cd (c : Jvm.ClassFile.Cond) (a b : Int32) : Decidable (pm_cc c a b) := match c with
  | .eq => inferInstanceAs (Decidable (a = b))
  | .ne => inferInstanceAs (Decidable (¬ a = b))
  | .lt => inferInstanceAs (Decidable (a < b))
  | .ge => inferInstanceAs (Decidable (b ≤ a))
  | .gt => inferInstanceAs (Decidable (b < a))
  | .le => inferInstanceAs (Decidable (a ≤ b))
def pm_sw {α : Type} (br : (c : Prop) → Decidable c → α → α → α) (a : Int32) (nx : Nat → α) (d : Nat) : List Int → List Nat → α
  | k :: ks, t :: ts => br (a = Int32.ofInt k) inferInstance (nx t) (pm_sw br a nx d ks ts)
  | _, _ => nx d
def pm_pop : Nat → List Value → List Value → Option (List Value × List Value)
  | 0, acc, st => some (acc, st)
  | n + 1, acc, v :: st => pm_pop n (v :: acc) st
  | _ + 1, _, [] => none
def pm_cs (st : List Value) : Nat := (st.map fun v => v.category).sum
def pm_rv (r : Option Value) (st : List Value) : List Value := r.toList ++ st
def pm_dfl (c : Nat) : List Value := match pm_nth pm_cls c with
  | some q => (List.range q.2.2).map fun j => match ((q.2.1 j).2.2.1 == "I") || ((q.2.1 j).2.2.1 == "Z") with
    | true => .int 0
    | false => .null
  | none => []
def pm_strs : List (List Nat) := ["pay bar when or and not coins age purse spot years here debtor creditor sunday ", ";+-*/()<=>"].map fun s => s.toList.map Char.toNat
section GO
variable {α η : Type} (O : pm_O η) (bad : α) (br : (c : Prop) → Decidable c → α → α → α)
def pm_min (a b : Int32) : Int32 := if b < a then b else a
def pm_max (a b : Int32) : Int32 := if a < b then b else a
def pm_abs (a : Int32) : Int32 := if 0 ≤ a then a else 0 - a
/-- getfield -/
def pm_gget (x y : Nat) (st : List Value) (h : η) (nx : List Value → η → α) : α := match st with
  | .ref p :: st => match O.1 h p x y with
    | some v => nx (v :: st) h
    | none => bad
  | .retAddr k :: st => match Nat.ble k 1 && Nat.beq x 50 with
    | true => match y with
      | 0 => nx (.retAddr (k + 10) :: st) h
      | _ => nx (.int 0 :: st) h
    | false => bad
  | _ => bad
def pm_gput (x y : Nat) (zs : List Nat) (st : List Value) (h : η) (nx : List Value → η → α) : α := match st with
  | v :: .ref p :: st => match O.2.1 h p x y v with
    | some h1 => match zs, v with
      | [0], .int _ => nx st h1
      | [1], .int w => br (w = 0 ∨ w = 1) inferInstance (nx st h1) bad
      | [2], .ref _ => nx st h1
      | _, _ => bad
    | none => bad
  | _ => bad
def pm_gald (kd : Nat) (st : List Value) (h : η) (nx : List Value → η → α) : α := match st with
  | .int j :: .ref p :: st => match O.2.2.1 h p with
    | some (k, n, f) => match Nat.beq k kd with
      | true => br (¬ (j < 0 ∨ n ≤ j.toNatClampNeg)) inferInstance (nx (.int (f j.toNatClampNeg) :: st) h) bad
      | false => bad
    | none => bad
  | .int j :: .retAddr k :: st => match kd with
    | 0 => match k with
      | 30 => match O.2.2.2.2.2.2.2.2 with
        | some z => br (¬ (j < 0 ∨ z.1 ≤ j.toNatClampNeg)) inferInstance (nx (.int (z.2 j.toNatClampNeg) :: st) h) bad
        | none => bad
      | _ => bad
    | _ => match pm_nth pm_strs (k - 10) with
      | some s => match Nat.ble 10 k with
        | true => br (¬ (j < 0 ∨ s.length ≤ j.toNatClampNeg)) inferInstance (nx (.int (nI (s.getD j.toNatClampNeg 0)) :: st) h) bad
        | false => bad
      | none => bad
  | _ => bad
def pm_gast (kd : Nat) (st : List Value) (h : η) (nx : List Value → η → α) : α := match st with
  | .int v :: .int j :: .ref p :: st => match O.2.2.1 h p with
    | some (k, n, f) => match Nat.beq k kd with
      | true => br (¬ (j < 0 ∨ n ≤ j.toNatClampNeg)) inferInstance (match kd with
          | 0 => nx st (O.2.2.2.1 h p (upd f j.toNatClampNeg v))
          | _ => br (v = 0 ∨ v = 1) inferInstance (nx st (O.2.2.2.1 h p (upd f j.toNatClampNeg v))) bad) bad
      | false => bad
    | none => bad
  | _ => bad
def pm_glld (st : List Value) (h : η) (nx : List Value → η → α) : α := match st with
  | .int j :: .ref p :: st => match O.2.2.2.2.1 h p with
    | some (n, f) => br (¬ (j < 0 ∨ n ≤ j.toNatClampNeg)) inferInstance (nx (.long (f j.toNatClampNeg) :: st) h) bad
    | none => bad
  | _ => bad
def pm_glst (st : List Value) (h : η) (nx : List Value → η → α) : α := match st with
  | .long v :: .int j :: .ref p :: st => match O.2.2.2.2.1 h p with
    | some (n, f) => br (¬ (j < 0 ∨ n ≤ j.toNatClampNeg)) inferInstance (nx st (O.2.2.2.2.2.1 h p (vp_updL f j.toNatClampNeg v))) bad
    | none => bad
  | _ => bad
def pm_glen (st : List Value) (h : η) (nx : List Value → η → α) : α := match st with
  | .ref p :: st => match O.2.2.1 h p with
    | some (k, n, _) => match Nat.ble k 1 with
      | true => nx (.int (nI n) :: st) h
      | false => bad
    | none => match O.2.2.2.2.1 h p with
      | some (n, _) => nx (.int (nI n) :: st) h
      | none => bad
  | .retAddr k :: st => match k with
    | 30 => match O.2.2.2.2.2.2.2.2 with
      | some z => nx (.int (nI z.1) :: st) h
      | none => bad
    | _ => match pm_nth pm_strs (k - 10) with
      | some s => match Nat.ble 10 k with
        | true => nx (.int (nI s.length) :: st) h
        | false => bad
      | none => bad
  | _ => bad
def pm_gdiv (f : Int32 → Int32 → Int32) (st : List Value) (h : η) (nx : List Value → η → α) : α := match st with
  | .int b :: .int a :: st => br (¬ b = 0) inferInstance (nx (.int (f a b) :: st) h) bad
  | _ => bad
def pm_gnew (x : Nat) (st : List Value) (h : η) (nx : List Value → η → α) : α := match O.2.2.2.2.2.2.1 h (.inr (x, pm_dfl x)) with
  | some (p, h1) => nx (.ref p :: st) h1
  | none => bad
def pm_gnwa (t : ArrayType) (st : List Value) (h : η) (nx : List Value → η → α) : α := match st with
  | .int n :: st => br (¬ n < 0 ∧ n.toNatClampNeg ≤ 20000) inferInstance (match t with
    | .int => match O.2.2.2.2.2.2.1 h (.inl (0, n.toNatClampNeg, .inl (fun _ => 0))) with
      | some (p, h1) => nx (.ref p :: st) h1
      | none => bad
    | .boolean => match O.2.2.2.2.2.2.1 h (.inl (1, n.toNatClampNeg, .inl (fun _ => 0))) with
      | some (p, h1) => nx (.ref p :: st) h1
      | none => bad
    | .long => match O.2.2.2.2.2.2.1 h (.inl (2, n.toNatClampNeg, .inr (.inl (fun _ => 0)))) with
      | some (p, h1) => nx (.ref p :: st) h1
      | none => bad
    | _ => bad) bad
  | _ => bad
/-- the library's own: min, max, abs, arraycopy; Object's constructor -/
def pm_gint (x : Nat) (st : List Value) (h : η) (nx : List Value → η → α) : α := match x with
  | 1000 => match st with
    | .int b :: .int a :: st => match Nat.ble (pm_cs st) 8 with
      | true => nx (.int (pm_min a b) :: st) h
      | false => bad
    | _ => bad
  | 1001 => match st with
    | .int b :: .int a :: st => match Nat.ble (pm_cs st) 8 with
      | true => nx (.int (pm_max a b) :: st) h
      | false => bad
    | _ => bad
  | 1002 => match st with
    | .int a :: st => match Nat.ble (pm_cs st) 8 with
      | true => nx (.int (pm_abs a) :: st) h
      | false => bad
    | _ => bad
  | 1003 => match st with
    | .int n :: .int dp :: .ref q :: .int sp :: .ref p :: st => match Nat.ble (pm_cs st) 8 with
      | true => match O.2.2.1 h p, O.2.2.1 h q with
        | some (0, n0, f), some (0, n1, g) => br (¬ sp < 0 ∧ ¬ dp < 0 ∧ ¬ n < 0 ∧ sp.toNatClampNeg + n.toNatClampNeg ≤ n0 ∧ dp.toNatClampNeg + n.toNatClampNeg ≤ n1) inferInstance (nx st (O.2.2.2.1 h q (va_cpy f g sp.toNatClampNeg dp.toNatClampNeg n.toNatClampNeg))) bad
        | _, _ => bad
      | false => bad
    | _ => bad
  | _ => bad
/-- calls of the table's methods: virtual, static, special -/
def pm_gcV (x y : Nat) (zs : List Nat) (st : List Value) (h : η) (nx : List Value → η → α) (cl : Nat → List Value → η → (Option Value → η → α) → α) : α := match Nat.ble x 255 with
  | false => bad
  | true => match pm_pop y [] st with
  | none => bad
  | some (As, rest) => match rest with
      | b :: rest => match Nat.ble (pm_cs rest) 8 with
        | true => match b with
          | .ref p => match O.2.2.2.2.2.2.2.1 h p, zs with
            | some ci, [cj] => match Nat.beq ci cj with
              | true => cl x (b :: As) h (fun r h1 => nx (pm_rv r rest) h1)
              | false => bad
            | _, _ => bad
          | .retAddr k => match Nat.ble k 1, zs with
            | true, [15] => cl x (b :: As) h (fun r h1 => nx (pm_rv r rest) h1)
            | _, _ => bad
          | _ => bad
        | false => bad
      | [] => bad
def pm_gcS (x y : Nat) (st : List Value) (h : η) (nx : List Value → η → α) (cl : Nat → List Value → η → (Option Value → η → α) → α) : α := match Nat.ble x 255 with
  | false => bad
  | true => match pm_pop y [] st with
  | none => bad
  | some (As, rest) => match Nat.ble (pm_cs rest) 8 with
      | true => cl x As h (fun r h1 => nx (pm_rv r rest) h1)
      | false => bad
def pm_gcI (x y : Nat) (st : List Value) (h : η) (nx : List Value → η → α) (cl : Nat → List Value → η → (Option Value → η → α) → α) : α := match Nat.ble x 255 with
  | false => bad
  | true => match pm_pop y [] st with
  | none => bad
  | some (As, rest) => match rest with
      | .ref p :: rest => match Nat.ble (pm_cs rest) 8 with
        | true => cl x (.ref p :: As) h (fun r h1 => nx (pm_rv r rest) h1)
        | false => bad
      | _ => bad
def pm_gret (rty : Option FieldType) (st : List Value) (h : η) (rt : Option Value → η → α) : α := match st with
  | [.int v] => match rty with
    | some .int => rt (some (.int v)) h
    | some .boolean => br (v = 0 ∨ v = 1) inferInstance (rt (some (.int v)) h) bad
    | some .byte => br (v = 0) inferInstance (rt (some (.int v)) h) bad
    | some .char => br (¬ v < 0 ∧ v < 256) inferInstance (rt (some (.int v)) h) bad
    | _ => bad
  | _ => bad
/-- one instruction -/
def pm_go (rty : Option FieldType) (idx : Nat) (i : pm_I) (L st : List Value) (h : η) (nx : Nat → List Value → List Value → η → α) (cl : Nat → List Value → η → (Option Value → η → α) → α) (rt : Option Value → η → α) : α := match i with
  | (_, ins, _, x, y, zs) => match ins with
    | .goto _ => nx x L st h
    | .ifCond c _ => match st with
      | .int a :: st => br (pm_cc c a 0) (pm_cd c a 0) (nx x L st h) (nx (idx + 1) L st h)
      | _ => bad
    | .if_icmp c _ => match st with
      | .int b :: .int a :: st => br (pm_cc c a b) (pm_cd c a b) (nx x L st h) (nx (idx + 1) L st h)
      | _ => bad
    | .tableswitch _ lo _ _ => match st with
      | .int a :: st => pm_sw br a (fun t => nx t L st h) x ((List.range zs.length).map (fun j => lo + Int.ofNat j)) zs
      | _ => bad
    | .lookupswitch _ ps => match st with
      | .int a :: st => pm_sw br a (fun t => nx t L st h) x (ps.toList.map Prod.fst) zs
      | _ => bad
    | .getfield _ => pm_gget O bad x y st h (nx (idx + 1) L)
    | .putfield _ => pm_gput O bad br x y zs st h (nx (idx + 1) L)
    | .iaload => pm_gald O bad br 0 st h (nx (idx + 1) L)
    | .baload => pm_gald O bad br 1 st h (nx (idx + 1) L)
    | .iastore => pm_gast O bad br 0 st h (nx (idx + 1) L)
    | .bastore => pm_gast O bad br 1 st h (nx (idx + 1) L)
    | .laload => pm_glld O bad br st h (nx (idx + 1) L)
    | .lastore => pm_glst O bad br st h (nx (idx + 1) L)
    | .arraylength => pm_glen O bad st h (nx (idx + 1) L)
    | .idiv => pm_gdiv bad br (fun a b => a / b) st h (nx (idx + 1) L)
    | .irem => pm_gdiv bad br (fun a b => a - a / b * b) st h (nx (idx + 1) L)
    | .new _ => pm_gnew O bad x st h (nx (idx + 1) L)
    | .newarray t => pm_gnwa O bad br t st h (nx (idx + 1) L)
    | .invokevirtual _ => pm_gcV O bad x y zs st h (nx (idx + 1) L) cl
    | .invokestatic _ => match Nat.ble 1000 x with
      | true => pm_gint O bad br x st h (nx (idx + 1) L)
      | false => pm_gcS bad x y st h (nx (idx + 1) L) cl
    | .invokespecial _ => match x with
      | 1004 => match st with
        | .ref _ :: st => match Nat.ble (pm_cs st) 8 with
          | true => nx (idx + 1) L st h
          | false => bad
        | _ => bad
      | _ => pm_gcI bad x y st h (nx (idx + 1) L) cl
    | .ireturn => pm_gret bad br rty st h rt
    | .lreturn => match st with
      | [.long v] => match rty with
        | some .long => rt (some (.long v)) h
        | _ => bad
      | _ => bad
    | .return_ => match st with
      | [] => match rty with
        | none => rt none h
        | _ => bad
      | _ => bad
    | ins => match pm_pu ins x y L st with
      | some (L1, st1) => nx (idx + 1) L1 st1 h
      | none => bad
end GO
/-- the list of cells as a heap -/
abbrev pm_H : Type := List va_E
def pm_OH (scr : Option (Nat × (Nat → Int32))) : pm_O pm_H :=
  (fun h p x y => match h[p]? with
    | some (.inr (c, fs)) => match Nat.beq c x with
      | true => fs[y]?
      | false => none
    | _ => none,
   fun h p x y v => match h[p]? with
    | some (.inr (c, fs)) => match Nat.beq c x with
      | true => match fs[y]? with
        | some _ => some (h.set p (.inr (c, fs.set y v)))
        | none => none
      | false => none
    | _ => none,
   fun h p => match h[p]? with
    | some (.inl (k, n, .inl f)) => some (k, n, f)
    | _ => none,
   fun h p f => match h[p]? with
    | some (.inl (k, n, .inl _)) => h.set p (.inl (k, n, .inl f))
    | _ => h,
   fun h p => match h[p]? with
    | some (.inl (2, n, .inr (.inl f))) => some (n, f)
    | _ => none,
   fun h p f => match h[p]? with
    | some (.inl (k, n, .inr (.inl _))) => h.set p (.inl (k, n, .inr (.inl f)))
    | _ => h,
   fun h c => some (h.length, h ++ [c]),
   fun h p => match h[p]? with
    | some (.inr (c, _)) => some c
    | _ => none,
   scr)
/-- weakest preconditions: conditions become implications -/
def pm_br (c : Prop) (_ : Decidable c) (a b : Prop) : Prop := (c → a) ∧ (¬ c → b)
