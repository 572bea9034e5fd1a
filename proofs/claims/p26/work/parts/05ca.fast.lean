/-! the tables' check: the bytes from a place on, by the instruction that is expected -/
theorem fd_lt {b : ByteArray} {p : Nat} {x : UInt8} {r : List UInt8} (h : b.data.toList.drop p = x :: r) : p < b.data.toList.length := by
  by_cases c : p < b.data.toList.length
  · exact c
  · rw [List.drop_eq_nil_of_le (by omega)] at h
    cases h
theorem fd_tl {b : ByteArray} {p : Nat} {x : UInt8} {r : List UInt8} (h : b.data.toList.drop p = x :: r) : b.data.toList.drop (p + 1) = r := by
  rw [List.drop_eq_getElem_cons (fd_lt h)] at h
  exact (List.cons.inj h).2
theorem fd_u1 {b : ByteArray} {p : Nat} {x : UInt8} {r : List UInt8} (h : b.data.toList.drop p = x :: r) : (Reader.u1 : Decoder Nat) b p = .ok (x.toNat, p + 1) := by
  have hl := fd_lt h
  have hp : p < b.size := by
    rw [Array.length_toList] at hl
    exact hl
  have hx : b[p] = x := by
    rw [List.drop_eq_getElem_cons hl] at h
    exact (List.cons.inj h).1
  have e : (Reader.u1 : Decoder Nat) b p = ((if h : p < b.size then (do set (p + 1); pure b[p].toNat) else throw (HasTruncated.truncated p)) : Decoder Nat) b p := rfl
  rw [e, dif_pos hp]
  show Except.ok (b[p].toNat, p + 1) = _
  rw [hx]
theorem fd_u2 {b : ByteArray} {p : Nat} {x y : UInt8} {r : List UInt8} (h : b.data.toList.drop p = x :: y :: r) : (Reader.u2 : Decoder Nat) b p = .ok (x.toNat * 256 + y.toNat, p + 2) := by
  show Except.bind ((Reader.u1 : Decoder Nat) b p) _ = _
  rw [fd_u1 h]
  show Except.bind ((Reader.u1 : Decoder Nat) b (p + 1)) _ = _
  rw [fd_u1 (fd_tl h)]
  rfl
theorem fd_s1 {b : ByteArray} {p : Nat} {x : UInt8} {r : List UInt8} (h : b.data.toList.drop p = x :: r) : (Reader.s1 : Decoder Int) b p = .ok (Reader.signed 8 x.toNat, p + 1) := by
  show Except.bind ((Reader.u1 : Decoder Nat) b p) _ = _
  rw [fd_u1 h]
  rfl
theorem fd_s2 {b : ByteArray} {p : Nat} {x y : UInt8} {r : List UInt8} (h : b.data.toList.drop p = x :: y :: r) : (Reader.s2 : Decoder Int) b p = .ok (Reader.signed 16 (x.toNat * 256 + y.toNat), p + 2) := by
  show Except.bind ((Reader.u2 : Decoder Nat) b p) _ = _
  rw [fd_u2 h]
  rfl
theorem fd_dec {b : ByteArray} {pc n l : Nat} {i : Instr} (h : Decoder.instr pc b pc = .ok (i, n)) (hl : n = pc + l) : decode b pc = .ok (i, l) := by
  have e : decode b pc = Except.bind (Decoder.instr pc b pc) (fun q => .ok (q.1, q.2 - pc)) := rfl
  rw [e, h]
  show Except.ok (i, n - pc) = _
  rw [hl, Nat.add_sub_cancel_left]
def fo1 (r : List UInt8) (n : Nat) : Bool := match r with
  | y :: _ => Nat.beq y.toNat n
  | _ => false
def fo2 (r : List UInt8) (n : Nat) : Bool := match r with
  | y :: z :: _ => Nat.beq (y.toNat * 256 + z.toNat) n
  | _ => false
def fs1 (r : List UInt8) (v : Int) : Bool := match r with
  | y :: _ => decide (Reader.signed 8 y.toNat = v)
  | _ => false
def fs2 (r : List UInt8) (v : Int) : Bool := match r with
  | y :: z :: _ => decide (Reader.signed 16 (y.toNat * 256 + z.toNat) = v)
  | _ => false
theorem fl_46 {b : ByteArray} {pc : Nat} {x : UInt8} {r : List UInt8} (h : b.data.toList.drop pc = x :: r) (hx : x.toNat = 46) : decode b pc = .ok (.iaload, 1) := fd_dec (n := pc + 1) (by
  show Except.bind ((Reader.u1 : Decoder Nat) b pc) _ = _
  rw [fd_u1 h, hx]
  rfl) rfl
theorem fl_47 {b : ByteArray} {pc : Nat} {x : UInt8} {r : List UInt8} (h : b.data.toList.drop pc = x :: r) (hx : x.toNat = 47) : decode b pc = .ok (.laload, 1) := fd_dec (n := pc + 1) (by
  show Except.bind ((Reader.u1 : Decoder Nat) b pc) _ = _
  rw [fd_u1 h, hx]
  rfl) rfl
theorem fl_50 {b : ByteArray} {pc : Nat} {x : UInt8} {r : List UInt8} (h : b.data.toList.drop pc = x :: r) (hx : x.toNat = 50) : decode b pc = .ok (.aaload, 1) := fd_dec (n := pc + 1) (by
  show Except.bind ((Reader.u1 : Decoder Nat) b pc) _ = _
  rw [fd_u1 h, hx]
  rfl) rfl
theorem fl_51 {b : ByteArray} {pc : Nat} {x : UInt8} {r : List UInt8} (h : b.data.toList.drop pc = x :: r) (hx : x.toNat = 51) : decode b pc = .ok (.baload, 1) := fd_dec (n := pc + 1) (by
  show Except.bind ((Reader.u1 : Decoder Nat) b pc) _ = _
  rw [fd_u1 h, hx]
  rfl) rfl
theorem fl_52 {b : ByteArray} {pc : Nat} {x : UInt8} {r : List UInt8} (h : b.data.toList.drop pc = x :: r) (hx : x.toNat = 52) : decode b pc = .ok (.caload, 1) := fd_dec (n := pc + 1) (by
  show Except.bind ((Reader.u1 : Decoder Nat) b pc) _ = _
  rw [fd_u1 h, hx]
  rfl) rfl
theorem fl_79 {b : ByteArray} {pc : Nat} {x : UInt8} {r : List UInt8} (h : b.data.toList.drop pc = x :: r) (hx : x.toNat = 79) : decode b pc = .ok (.iastore, 1) := fd_dec (n := pc + 1) (by
  show Except.bind ((Reader.u1 : Decoder Nat) b pc) _ = _
  rw [fd_u1 h, hx]
  rfl) rfl
theorem fl_80 {b : ByteArray} {pc : Nat} {x : UInt8} {r : List UInt8} (h : b.data.toList.drop pc = x :: r) (hx : x.toNat = 80) : decode b pc = .ok (.lastore, 1) := fd_dec (n := pc + 1) (by
  show Except.bind ((Reader.u1 : Decoder Nat) b pc) _ = _
  rw [fd_u1 h, hx]
  rfl) rfl
theorem fl_83 {b : ByteArray} {pc : Nat} {x : UInt8} {r : List UInt8} (h : b.data.toList.drop pc = x :: r) (hx : x.toNat = 83) : decode b pc = .ok (.aastore, 1) := fd_dec (n := pc + 1) (by
  show Except.bind ((Reader.u1 : Decoder Nat) b pc) _ = _
  rw [fd_u1 h, hx]
  rfl) rfl
theorem fl_84 {b : ByteArray} {pc : Nat} {x : UInt8} {r : List UInt8} (h : b.data.toList.drop pc = x :: r) (hx : x.toNat = 84) : decode b pc = .ok (.bastore, 1) := fd_dec (n := pc + 1) (by
  show Except.bind ((Reader.u1 : Decoder Nat) b pc) _ = _
  rw [fd_u1 h, hx]
  rfl) rfl
theorem fl_85 {b : ByteArray} {pc : Nat} {x : UInt8} {r : List UInt8} (h : b.data.toList.drop pc = x :: r) (hx : x.toNat = 85) : decode b pc = .ok (.castore, 1) := fd_dec (n := pc + 1) (by
  show Except.bind ((Reader.u1 : Decoder Nat) b pc) _ = _
  rw [fd_u1 h, hx]
  rfl) rfl
theorem fl_87 {b : ByteArray} {pc : Nat} {x : UInt8} {r : List UInt8} (h : b.data.toList.drop pc = x :: r) (hx : x.toNat = 87) : decode b pc = .ok (.pop, 1) := fd_dec (n := pc + 1) (by
  show Except.bind ((Reader.u1 : Decoder Nat) b pc) _ = _
  rw [fd_u1 h, hx]
  rfl) rfl
theorem fl_89 {b : ByteArray} {pc : Nat} {x : UInt8} {r : List UInt8} (h : b.data.toList.drop pc = x :: r) (hx : x.toNat = 89) : decode b pc = .ok (.dup, 1) := fd_dec (n := pc + 1) (by
  show Except.bind ((Reader.u1 : Decoder Nat) b pc) _ = _
  rw [fd_u1 h, hx]
  rfl) rfl
theorem fl_90 {b : ByteArray} {pc : Nat} {x : UInt8} {r : List UInt8} (h : b.data.toList.drop pc = x :: r) (hx : x.toNat = 90) : decode b pc = .ok (.dup_x1, 1) := fd_dec (n := pc + 1) (by
  show Except.bind ((Reader.u1 : Decoder Nat) b pc) _ = _
  rw [fd_u1 h, hx]
  rfl) rfl
theorem fl_92 {b : ByteArray} {pc : Nat} {x : UInt8} {r : List UInt8} (h : b.data.toList.drop pc = x :: r) (hx : x.toNat = 92) : decode b pc = .ok (.dup2, 1) := fd_dec (n := pc + 1) (by
  show Except.bind ((Reader.u1 : Decoder Nat) b pc) _ = _
  rw [fd_u1 h, hx]
  rfl) rfl
theorem fl_96 {b : ByteArray} {pc : Nat} {x : UInt8} {r : List UInt8} (h : b.data.toList.drop pc = x :: r) (hx : x.toNat = 96) : decode b pc = .ok (.iadd, 1) := fd_dec (n := pc + 1) (by
  show Except.bind ((Reader.u1 : Decoder Nat) b pc) _ = _
  rw [fd_u1 h, hx]
  rfl) rfl
theorem fl_97 {b : ByteArray} {pc : Nat} {x : UInt8} {r : List UInt8} (h : b.data.toList.drop pc = x :: r) (hx : x.toNat = 97) : decode b pc = .ok (.ladd, 1) := fd_dec (n := pc + 1) (by
  show Except.bind ((Reader.u1 : Decoder Nat) b pc) _ = _
  rw [fd_u1 h, hx]
  rfl) rfl
theorem fl_100 {b : ByteArray} {pc : Nat} {x : UInt8} {r : List UInt8} (h : b.data.toList.drop pc = x :: r) (hx : x.toNat = 100) : decode b pc = .ok (.isub, 1) := fd_dec (n := pc + 1) (by
  show Except.bind ((Reader.u1 : Decoder Nat) b pc) _ = _
  rw [fd_u1 h, hx]
  rfl) rfl
theorem fl_101 {b : ByteArray} {pc : Nat} {x : UInt8} {r : List UInt8} (h : b.data.toList.drop pc = x :: r) (hx : x.toNat = 101) : decode b pc = .ok (.lsub, 1) := fd_dec (n := pc + 1) (by
  show Except.bind ((Reader.u1 : Decoder Nat) b pc) _ = _
  rw [fd_u1 h, hx]
  rfl) rfl
theorem fl_104 {b : ByteArray} {pc : Nat} {x : UInt8} {r : List UInt8} (h : b.data.toList.drop pc = x :: r) (hx : x.toNat = 104) : decode b pc = .ok (.imul, 1) := fd_dec (n := pc + 1) (by
  show Except.bind ((Reader.u1 : Decoder Nat) b pc) _ = _
  rw [fd_u1 h, hx]
  rfl) rfl
theorem fl_105 {b : ByteArray} {pc : Nat} {x : UInt8} {r : List UInt8} (h : b.data.toList.drop pc = x :: r) (hx : x.toNat = 105) : decode b pc = .ok (.lmul, 1) := fd_dec (n := pc + 1) (by
  show Except.bind ((Reader.u1 : Decoder Nat) b pc) _ = _
  rw [fd_u1 h, hx]
  rfl) rfl
theorem fl_108 {b : ByteArray} {pc : Nat} {x : UInt8} {r : List UInt8} (h : b.data.toList.drop pc = x :: r) (hx : x.toNat = 108) : decode b pc = .ok (.idiv, 1) := fd_dec (n := pc + 1) (by
  show Except.bind ((Reader.u1 : Decoder Nat) b pc) _ = _
  rw [fd_u1 h, hx]
  rfl) rfl
theorem fl_109 {b : ByteArray} {pc : Nat} {x : UInt8} {r : List UInt8} (h : b.data.toList.drop pc = x :: r) (hx : x.toNat = 109) : decode b pc = .ok (.ldiv, 1) := fd_dec (n := pc + 1) (by
  show Except.bind ((Reader.u1 : Decoder Nat) b pc) _ = _
  rw [fd_u1 h, hx]
  rfl) rfl
theorem fl_112 {b : ByteArray} {pc : Nat} {x : UInt8} {r : List UInt8} (h : b.data.toList.drop pc = x :: r) (hx : x.toNat = 112) : decode b pc = .ok (.irem, 1) := fd_dec (n := pc + 1) (by
  show Except.bind ((Reader.u1 : Decoder Nat) b pc) _ = _
  rw [fd_u1 h, hx]
  rfl) rfl
theorem fl_113 {b : ByteArray} {pc : Nat} {x : UInt8} {r : List UInt8} (h : b.data.toList.drop pc = x :: r) (hx : x.toNat = 113) : decode b pc = .ok (.lrem, 1) := fd_dec (n := pc + 1) (by
  show Except.bind ((Reader.u1 : Decoder Nat) b pc) _ = _
  rw [fd_u1 h, hx]
  rfl) rfl
theorem fl_116 {b : ByteArray} {pc : Nat} {x : UInt8} {r : List UInt8} (h : b.data.toList.drop pc = x :: r) (hx : x.toNat = 116) : decode b pc = .ok (.ineg, 1) := fd_dec (n := pc + 1) (by
  show Except.bind ((Reader.u1 : Decoder Nat) b pc) _ = _
  rw [fd_u1 h, hx]
  rfl) rfl
theorem fl_117 {b : ByteArray} {pc : Nat} {x : UInt8} {r : List UInt8} (h : b.data.toList.drop pc = x :: r) (hx : x.toNat = 117) : decode b pc = .ok (.lneg, 1) := fd_dec (n := pc + 1) (by
  show Except.bind ((Reader.u1 : Decoder Nat) b pc) _ = _
  rw [fd_u1 h, hx]
  rfl) rfl
theorem fl_120 {b : ByteArray} {pc : Nat} {x : UInt8} {r : List UInt8} (h : b.data.toList.drop pc = x :: r) (hx : x.toNat = 120) : decode b pc = .ok (.ishl, 1) := fd_dec (n := pc + 1) (by
  show Except.bind ((Reader.u1 : Decoder Nat) b pc) _ = _
  rw [fd_u1 h, hx]
  rfl) rfl
theorem fl_121 {b : ByteArray} {pc : Nat} {x : UInt8} {r : List UInt8} (h : b.data.toList.drop pc = x :: r) (hx : x.toNat = 121) : decode b pc = .ok (.lshl, 1) := fd_dec (n := pc + 1) (by
  show Except.bind ((Reader.u1 : Decoder Nat) b pc) _ = _
  rw [fd_u1 h, hx]
  rfl) rfl
theorem fl_122 {b : ByteArray} {pc : Nat} {x : UInt8} {r : List UInt8} (h : b.data.toList.drop pc = x :: r) (hx : x.toNat = 122) : decode b pc = .ok (.ishr, 1) := fd_dec (n := pc + 1) (by
  show Except.bind ((Reader.u1 : Decoder Nat) b pc) _ = _
  rw [fd_u1 h, hx]
  rfl) rfl
theorem fl_123 {b : ByteArray} {pc : Nat} {x : UInt8} {r : List UInt8} (h : b.data.toList.drop pc = x :: r) (hx : x.toNat = 123) : decode b pc = .ok (.lshr, 1) := fd_dec (n := pc + 1) (by
  show Except.bind ((Reader.u1 : Decoder Nat) b pc) _ = _
  rw [fd_u1 h, hx]
  rfl) rfl
theorem fl_124 {b : ByteArray} {pc : Nat} {x : UInt8} {r : List UInt8} (h : b.data.toList.drop pc = x :: r) (hx : x.toNat = 124) : decode b pc = .ok (.iushr, 1) := fd_dec (n := pc + 1) (by
  show Except.bind ((Reader.u1 : Decoder Nat) b pc) _ = _
  rw [fd_u1 h, hx]
  rfl) rfl
theorem fl_125 {b : ByteArray} {pc : Nat} {x : UInt8} {r : List UInt8} (h : b.data.toList.drop pc = x :: r) (hx : x.toNat = 125) : decode b pc = .ok (.lushr, 1) := fd_dec (n := pc + 1) (by
  show Except.bind ((Reader.u1 : Decoder Nat) b pc) _ = _
  rw [fd_u1 h, hx]
  rfl) rfl
theorem fl_126 {b : ByteArray} {pc : Nat} {x : UInt8} {r : List UInt8} (h : b.data.toList.drop pc = x :: r) (hx : x.toNat = 126) : decode b pc = .ok (.iand, 1) := fd_dec (n := pc + 1) (by
  show Except.bind ((Reader.u1 : Decoder Nat) b pc) _ = _
  rw [fd_u1 h, hx]
  rfl) rfl
theorem fl_127 {b : ByteArray} {pc : Nat} {x : UInt8} {r : List UInt8} (h : b.data.toList.drop pc = x :: r) (hx : x.toNat = 127) : decode b pc = .ok (.land, 1) := fd_dec (n := pc + 1) (by
  show Except.bind ((Reader.u1 : Decoder Nat) b pc) _ = _
  rw [fd_u1 h, hx]
  rfl) rfl
theorem fl_128 {b : ByteArray} {pc : Nat} {x : UInt8} {r : List UInt8} (h : b.data.toList.drop pc = x :: r) (hx : x.toNat = 128) : decode b pc = .ok (.ior, 1) := fd_dec (n := pc + 1) (by
  show Except.bind ((Reader.u1 : Decoder Nat) b pc) _ = _
  rw [fd_u1 h, hx]
  rfl) rfl
theorem fl_129 {b : ByteArray} {pc : Nat} {x : UInt8} {r : List UInt8} (h : b.data.toList.drop pc = x :: r) (hx : x.toNat = 129) : decode b pc = .ok (.lor, 1) := fd_dec (n := pc + 1) (by
  show Except.bind ((Reader.u1 : Decoder Nat) b pc) _ = _
  rw [fd_u1 h, hx]
  rfl) rfl
theorem fl_130 {b : ByteArray} {pc : Nat} {x : UInt8} {r : List UInt8} (h : b.data.toList.drop pc = x :: r) (hx : x.toNat = 130) : decode b pc = .ok (.ixor, 1) := fd_dec (n := pc + 1) (by
  show Except.bind ((Reader.u1 : Decoder Nat) b pc) _ = _
  rw [fd_u1 h, hx]
  rfl) rfl
theorem fl_131 {b : ByteArray} {pc : Nat} {x : UInt8} {r : List UInt8} (h : b.data.toList.drop pc = x :: r) (hx : x.toNat = 131) : decode b pc = .ok (.lxor, 1) := fd_dec (n := pc + 1) (by
  show Except.bind ((Reader.u1 : Decoder Nat) b pc) _ = _
  rw [fd_u1 h, hx]
  rfl) rfl
theorem fl_133 {b : ByteArray} {pc : Nat} {x : UInt8} {r : List UInt8} (h : b.data.toList.drop pc = x :: r) (hx : x.toNat = 133) : decode b pc = .ok (.i2l, 1) := fd_dec (n := pc + 1) (by
  show Except.bind ((Reader.u1 : Decoder Nat) b pc) _ = _
  rw [fd_u1 h, hx]
  rfl) rfl
theorem fl_136 {b : ByteArray} {pc : Nat} {x : UInt8} {r : List UInt8} (h : b.data.toList.drop pc = x :: r) (hx : x.toNat = 136) : decode b pc = .ok (.l2i, 1) := fd_dec (n := pc + 1) (by
  show Except.bind ((Reader.u1 : Decoder Nat) b pc) _ = _
  rw [fd_u1 h, hx]
  rfl) rfl
theorem fl_145 {b : ByteArray} {pc : Nat} {x : UInt8} {r : List UInt8} (h : b.data.toList.drop pc = x :: r) (hx : x.toNat = 145) : decode b pc = .ok (.i2b, 1) := fd_dec (n := pc + 1) (by
  show Except.bind ((Reader.u1 : Decoder Nat) b pc) _ = _
  rw [fd_u1 h, hx]
  rfl) rfl
theorem fl_146 {b : ByteArray} {pc : Nat} {x : UInt8} {r : List UInt8} (h : b.data.toList.drop pc = x :: r) (hx : x.toNat = 146) : decode b pc = .ok (.i2c, 1) := fd_dec (n := pc + 1) (by
  show Except.bind ((Reader.u1 : Decoder Nat) b pc) _ = _
  rw [fd_u1 h, hx]
  rfl) rfl
theorem fl_148 {b : ByteArray} {pc : Nat} {x : UInt8} {r : List UInt8} (h : b.data.toList.drop pc = x :: r) (hx : x.toNat = 148) : decode b pc = .ok (.lcmp, 1) := fd_dec (n := pc + 1) (by
  show Except.bind ((Reader.u1 : Decoder Nat) b pc) _ = _
  rw [fd_u1 h, hx]
  rfl) rfl
theorem fl_172 {b : ByteArray} {pc : Nat} {x : UInt8} {r : List UInt8} (h : b.data.toList.drop pc = x :: r) (hx : x.toNat = 172) : decode b pc = .ok (.ireturn, 1) := fd_dec (n := pc + 1) (by
  show Except.bind ((Reader.u1 : Decoder Nat) b pc) _ = _
  rw [fd_u1 h, hx]
  rfl) rfl
theorem fl_173 {b : ByteArray} {pc : Nat} {x : UInt8} {r : List UInt8} (h : b.data.toList.drop pc = x :: r) (hx : x.toNat = 173) : decode b pc = .ok (.lreturn, 1) := fd_dec (n := pc + 1) (by
  show Except.bind ((Reader.u1 : Decoder Nat) b pc) _ = _
  rw [fd_u1 h, hx]
  rfl) rfl
theorem fl_176 {b : ByteArray} {pc : Nat} {x : UInt8} {r : List UInt8} (h : b.data.toList.drop pc = x :: r) (hx : x.toNat = 176) : decode b pc = .ok (.areturn, 1) := fd_dec (n := pc + 1) (by
  show Except.bind ((Reader.u1 : Decoder Nat) b pc) _ = _
  rw [fd_u1 h, hx]
  rfl) rfl
theorem fl_177 {b : ByteArray} {pc : Nat} {x : UInt8} {r : List UInt8} (h : b.data.toList.drop pc = x :: r) (hx : x.toNat = 177) : decode b pc = .ok (.return_, 1) := fd_dec (n := pc + 1) (by
  show Except.bind ((Reader.u1 : Decoder Nat) b pc) _ = _
  rw [fd_u1 h, hx]
  rfl) rfl
theorem fl_190 {b : ByteArray} {pc : Nat} {x : UInt8} {r : List UInt8} (h : b.data.toList.drop pc = x :: r) (hx : x.toNat = 190) : decode b pc = .ok (.arraylength, 1) := fd_dec (n := pc + 1) (by
  show Except.bind ((Reader.u1 : Decoder Nat) b pc) _ = _
  rw [fd_u1 h, hx]
  rfl) rfl
theorem fl_191 {b : ByteArray} {pc : Nat} {x : UInt8} {r : List UInt8} (h : b.data.toList.drop pc = x :: r) (hx : x.toNat = 191) : decode b pc = .ok (.athrow, 1) := fd_dec (n := pc + 1) (by
  show Except.bind ((Reader.u1 : Decoder Nat) b pc) _ = _
  rw [fd_u1 h, hx]
  rfl) rfl
theorem fl_42 {b : ByteArray} {pc : Nat} {x : UInt8} {r : List UInt8} (h : b.data.toList.drop pc = x :: r) (hx : x.toNat = 42) : decode b pc = .ok (.aload_n 0, 1) := fd_dec (n := pc + 1) (by
  show Except.bind ((Reader.u1 : Decoder Nat) b pc) _ = _
  rw [fd_u1 h, hx]
  rfl) rfl
theorem fl_43 {b : ByteArray} {pc : Nat} {x : UInt8} {r : List UInt8} (h : b.data.toList.drop pc = x :: r) (hx : x.toNat = 43) : decode b pc = .ok (.aload_n 1, 1) := fd_dec (n := pc + 1) (by
  show Except.bind ((Reader.u1 : Decoder Nat) b pc) _ = _
  rw [fd_u1 h, hx]
  rfl) rfl
theorem fl_44 {b : ByteArray} {pc : Nat} {x : UInt8} {r : List UInt8} (h : b.data.toList.drop pc = x :: r) (hx : x.toNat = 44) : decode b pc = .ok (.aload_n 2, 1) := fd_dec (n := pc + 1) (by
  show Except.bind ((Reader.u1 : Decoder Nat) b pc) _ = _
  rw [fd_u1 h, hx]
  rfl) rfl
theorem fl_45 {b : ByteArray} {pc : Nat} {x : UInt8} {r : List UInt8} (h : b.data.toList.drop pc = x :: r) (hx : x.toNat = 45) : decode b pc = .ok (.aload_n 3, 1) := fd_dec (n := pc + 1) (by
  show Except.bind ((Reader.u1 : Decoder Nat) b pc) _ = _
  rw [fd_u1 h, hx]
  rfl) rfl
theorem fl_26 {b : ByteArray} {pc : Nat} {x : UInt8} {r : List UInt8} (h : b.data.toList.drop pc = x :: r) (hx : x.toNat = 26) : decode b pc = .ok (.iload_n 0, 1) := fd_dec (n := pc + 1) (by
  show Except.bind ((Reader.u1 : Decoder Nat) b pc) _ = _
  rw [fd_u1 h, hx]
  rfl) rfl
theorem fl_27 {b : ByteArray} {pc : Nat} {x : UInt8} {r : List UInt8} (h : b.data.toList.drop pc = x :: r) (hx : x.toNat = 27) : decode b pc = .ok (.iload_n 1, 1) := fd_dec (n := pc + 1) (by
  show Except.bind ((Reader.u1 : Decoder Nat) b pc) _ = _
  rw [fd_u1 h, hx]
  rfl) rfl
theorem fl_28 {b : ByteArray} {pc : Nat} {x : UInt8} {r : List UInt8} (h : b.data.toList.drop pc = x :: r) (hx : x.toNat = 28) : decode b pc = .ok (.iload_n 2, 1) := fd_dec (n := pc + 1) (by
  show Except.bind ((Reader.u1 : Decoder Nat) b pc) _ = _
  rw [fd_u1 h, hx]
  rfl) rfl
theorem fl_29 {b : ByteArray} {pc : Nat} {x : UInt8} {r : List UInt8} (h : b.data.toList.drop pc = x :: r) (hx : x.toNat = 29) : decode b pc = .ok (.iload_n 3, 1) := fd_dec (n := pc + 1) (by
  show Except.bind ((Reader.u1 : Decoder Nat) b pc) _ = _
  rw [fd_u1 h, hx]
  rfl) rfl
theorem fl_30 {b : ByteArray} {pc : Nat} {x : UInt8} {r : List UInt8} (h : b.data.toList.drop pc = x :: r) (hx : x.toNat = 30) : decode b pc = .ok (.lload_n 0, 1) := fd_dec (n := pc + 1) (by
  show Except.bind ((Reader.u1 : Decoder Nat) b pc) _ = _
  rw [fd_u1 h, hx]
  rfl) rfl
theorem fl_31 {b : ByteArray} {pc : Nat} {x : UInt8} {r : List UInt8} (h : b.data.toList.drop pc = x :: r) (hx : x.toNat = 31) : decode b pc = .ok (.lload_n 1, 1) := fd_dec (n := pc + 1) (by
  show Except.bind ((Reader.u1 : Decoder Nat) b pc) _ = _
  rw [fd_u1 h, hx]
  rfl) rfl
theorem fl_32 {b : ByteArray} {pc : Nat} {x : UInt8} {r : List UInt8} (h : b.data.toList.drop pc = x :: r) (hx : x.toNat = 32) : decode b pc = .ok (.lload_n 2, 1) := fd_dec (n := pc + 1) (by
  show Except.bind ((Reader.u1 : Decoder Nat) b pc) _ = _
  rw [fd_u1 h, hx]
  rfl) rfl
theorem fl_33 {b : ByteArray} {pc : Nat} {x : UInt8} {r : List UInt8} (h : b.data.toList.drop pc = x :: r) (hx : x.toNat = 33) : decode b pc = .ok (.lload_n 3, 1) := fd_dec (n := pc + 1) (by
  show Except.bind ((Reader.u1 : Decoder Nat) b pc) _ = _
  rw [fd_u1 h, hx]
  rfl) rfl
theorem fl_59 {b : ByteArray} {pc : Nat} {x : UInt8} {r : List UInt8} (h : b.data.toList.drop pc = x :: r) (hx : x.toNat = 59) : decode b pc = .ok (.istore_n 0, 1) := fd_dec (n := pc + 1) (by
  show Except.bind ((Reader.u1 : Decoder Nat) b pc) _ = _
  rw [fd_u1 h, hx]
  rfl) rfl
theorem fl_60 {b : ByteArray} {pc : Nat} {x : UInt8} {r : List UInt8} (h : b.data.toList.drop pc = x :: r) (hx : x.toNat = 60) : decode b pc = .ok (.istore_n 1, 1) := fd_dec (n := pc + 1) (by
  show Except.bind ((Reader.u1 : Decoder Nat) b pc) _ = _
  rw [fd_u1 h, hx]
  rfl) rfl
theorem fl_61 {b : ByteArray} {pc : Nat} {x : UInt8} {r : List UInt8} (h : b.data.toList.drop pc = x :: r) (hx : x.toNat = 61) : decode b pc = .ok (.istore_n 2, 1) := fd_dec (n := pc + 1) (by
  show Except.bind ((Reader.u1 : Decoder Nat) b pc) _ = _
  rw [fd_u1 h, hx]
  rfl) rfl
theorem fl_62 {b : ByteArray} {pc : Nat} {x : UInt8} {r : List UInt8} (h : b.data.toList.drop pc = x :: r) (hx : x.toNat = 62) : decode b pc = .ok (.istore_n 3, 1) := fd_dec (n := pc + 1) (by
  show Except.bind ((Reader.u1 : Decoder Nat) b pc) _ = _
  rw [fd_u1 h, hx]
  rfl) rfl
theorem fl_63 {b : ByteArray} {pc : Nat} {x : UInt8} {r : List UInt8} (h : b.data.toList.drop pc = x :: r) (hx : x.toNat = 63) : decode b pc = .ok (.lstore_n 0, 1) := fd_dec (n := pc + 1) (by
  show Except.bind ((Reader.u1 : Decoder Nat) b pc) _ = _
  rw [fd_u1 h, hx]
  rfl) rfl
theorem fl_64 {b : ByteArray} {pc : Nat} {x : UInt8} {r : List UInt8} (h : b.data.toList.drop pc = x :: r) (hx : x.toNat = 64) : decode b pc = .ok (.lstore_n 1, 1) := fd_dec (n := pc + 1) (by
  show Except.bind ((Reader.u1 : Decoder Nat) b pc) _ = _
  rw [fd_u1 h, hx]
  rfl) rfl
theorem fl_65 {b : ByteArray} {pc : Nat} {x : UInt8} {r : List UInt8} (h : b.data.toList.drop pc = x :: r) (hx : x.toNat = 65) : decode b pc = .ok (.lstore_n 2, 1) := fd_dec (n := pc + 1) (by
  show Except.bind ((Reader.u1 : Decoder Nat) b pc) _ = _
  rw [fd_u1 h, hx]
  rfl) rfl
theorem fl_66 {b : ByteArray} {pc : Nat} {x : UInt8} {r : List UInt8} (h : b.data.toList.drop pc = x :: r) (hx : x.toNat = 66) : decode b pc = .ok (.lstore_n 3, 1) := fd_dec (n := pc + 1) (by
  show Except.bind ((Reader.u1 : Decoder Nat) b pc) _ = _
  rw [fd_u1 h, hx]
  rfl) rfl
theorem fl_75 {b : ByteArray} {pc : Nat} {x : UInt8} {r : List UInt8} (h : b.data.toList.drop pc = x :: r) (hx : x.toNat = 75) : decode b pc = .ok (.astore_n 0, 1) := fd_dec (n := pc + 1) (by
  show Except.bind ((Reader.u1 : Decoder Nat) b pc) _ = _
  rw [fd_u1 h, hx]
  rfl) rfl
theorem fl_76 {b : ByteArray} {pc : Nat} {x : UInt8} {r : List UInt8} (h : b.data.toList.drop pc = x :: r) (hx : x.toNat = 76) : decode b pc = .ok (.astore_n 1, 1) := fd_dec (n := pc + 1) (by
  show Except.bind ((Reader.u1 : Decoder Nat) b pc) _ = _
  rw [fd_u1 h, hx]
  rfl) rfl
theorem fl_77 {b : ByteArray} {pc : Nat} {x : UInt8} {r : List UInt8} (h : b.data.toList.drop pc = x :: r) (hx : x.toNat = 77) : decode b pc = .ok (.astore_n 2, 1) := fd_dec (n := pc + 1) (by
  show Except.bind ((Reader.u1 : Decoder Nat) b pc) _ = _
  rw [fd_u1 h, hx]
  rfl) rfl
theorem fl_78 {b : ByteArray} {pc : Nat} {x : UInt8} {r : List UInt8} (h : b.data.toList.drop pc = x :: r) (hx : x.toNat = 78) : decode b pc = .ok (.astore_n 3, 1) := fd_dec (n := pc + 1) (by
  show Except.bind ((Reader.u1 : Decoder Nat) b pc) _ = _
  rw [fd_u1 h, hx]
  rfl) rfl
theorem fl_2 {b : ByteArray} {pc : Nat} {x : UInt8} {r : List UInt8} (h : b.data.toList.drop pc = x :: r) (hx : x.toNat = 2) : decode b pc = .ok (.iconst (-1), 1) := fd_dec (n := pc + 1) (by
  show Except.bind ((Reader.u1 : Decoder Nat) b pc) _ = _
  rw [fd_u1 h, hx]
  rfl) rfl
theorem fl_3 {b : ByteArray} {pc : Nat} {x : UInt8} {r : List UInt8} (h : b.data.toList.drop pc = x :: r) (hx : x.toNat = 3) : decode b pc = .ok (.iconst 0, 1) := fd_dec (n := pc + 1) (by
  show Except.bind ((Reader.u1 : Decoder Nat) b pc) _ = _
  rw [fd_u1 h, hx]
  rfl) rfl
theorem fl_4 {b : ByteArray} {pc : Nat} {x : UInt8} {r : List UInt8} (h : b.data.toList.drop pc = x :: r) (hx : x.toNat = 4) : decode b pc = .ok (.iconst 1, 1) := fd_dec (n := pc + 1) (by
  show Except.bind ((Reader.u1 : Decoder Nat) b pc) _ = _
  rw [fd_u1 h, hx]
  rfl) rfl
theorem fl_5 {b : ByteArray} {pc : Nat} {x : UInt8} {r : List UInt8} (h : b.data.toList.drop pc = x :: r) (hx : x.toNat = 5) : decode b pc = .ok (.iconst 2, 1) := fd_dec (n := pc + 1) (by
  show Except.bind ((Reader.u1 : Decoder Nat) b pc) _ = _
  rw [fd_u1 h, hx]
  rfl) rfl
theorem fl_6 {b : ByteArray} {pc : Nat} {x : UInt8} {r : List UInt8} (h : b.data.toList.drop pc = x :: r) (hx : x.toNat = 6) : decode b pc = .ok (.iconst 3, 1) := fd_dec (n := pc + 1) (by
  show Except.bind ((Reader.u1 : Decoder Nat) b pc) _ = _
  rw [fd_u1 h, hx]
  rfl) rfl
theorem fl_7 {b : ByteArray} {pc : Nat} {x : UInt8} {r : List UInt8} (h : b.data.toList.drop pc = x :: r) (hx : x.toNat = 7) : decode b pc = .ok (.iconst 4, 1) := fd_dec (n := pc + 1) (by
  show Except.bind ((Reader.u1 : Decoder Nat) b pc) _ = _
  rw [fd_u1 h, hx]
  rfl) rfl
theorem fl_8 {b : ByteArray} {pc : Nat} {x : UInt8} {r : List UInt8} (h : b.data.toList.drop pc = x :: r) (hx : x.toNat = 8) : decode b pc = .ok (.iconst 5, 1) := fd_dec (n := pc + 1) (by
  show Except.bind ((Reader.u1 : Decoder Nat) b pc) _ = _
  rw [fd_u1 h, hx]
  rfl) rfl
theorem fl_9 {b : ByteArray} {pc : Nat} {x : UInt8} {r : List UInt8} (h : b.data.toList.drop pc = x :: r) (hx : x.toNat = 9) : decode b pc = .ok (.lconst 0, 1) := fd_dec (n := pc + 1) (by
  show Except.bind ((Reader.u1 : Decoder Nat) b pc) _ = _
  rw [fd_u1 h, hx]
  rfl) rfl
theorem fl_10 {b : ByteArray} {pc : Nat} {x : UInt8} {r : List UInt8} (h : b.data.toList.drop pc = x :: r) (hx : x.toNat = 10) : decode b pc = .ok (.lconst 1, 1) := fd_dec (n := pc + 1) (by
  show Except.bind ((Reader.u1 : Decoder Nat) b pc) _ = _
  rw [fd_u1 h, hx]
  rfl) rfl
theorem fl_21 {b : ByteArray} {pc : Nat} {x : UInt8} {r : List UInt8} (h : b.data.toList.drop pc = x :: r) (hx : x.toNat = 21) {v : Nat} (hv : fo1 r v = true) : decode b pc = .ok (.iload v, 2) := by
  unfold fo1 at hv
  split at hv
  · rename_i y _
    refine fd_dec (n := pc + 2) ?_ rfl
    show Except.bind ((Reader.u1 : Decoder Nat) b pc) _ = _
    rw [fd_u1 h, hx]
    show Except.bind ((Reader.u1 : Decoder Nat) b (pc + 1)) _ = _
    rw [fd_u1 (fd_tl h)]
    show Except.ok (Instr.iload (y.toNat), _) = _
    rw [Nat.eq_of_beq_eq_true hv]
  · cases hv
theorem fl_22 {b : ByteArray} {pc : Nat} {x : UInt8} {r : List UInt8} (h : b.data.toList.drop pc = x :: r) (hx : x.toNat = 22) {v : Nat} (hv : fo1 r v = true) : decode b pc = .ok (.lload v, 2) := by
  unfold fo1 at hv
  split at hv
  · rename_i y _
    refine fd_dec (n := pc + 2) ?_ rfl
    show Except.bind ((Reader.u1 : Decoder Nat) b pc) _ = _
    rw [fd_u1 h, hx]
    show Except.bind ((Reader.u1 : Decoder Nat) b (pc + 1)) _ = _
    rw [fd_u1 (fd_tl h)]
    show Except.ok (Instr.lload (y.toNat), _) = _
    rw [Nat.eq_of_beq_eq_true hv]
  · cases hv
theorem fl_25 {b : ByteArray} {pc : Nat} {x : UInt8} {r : List UInt8} (h : b.data.toList.drop pc = x :: r) (hx : x.toNat = 25) {v : Nat} (hv : fo1 r v = true) : decode b pc = .ok (.aload v, 2) := by
  unfold fo1 at hv
  split at hv
  · rename_i y _
    refine fd_dec (n := pc + 2) ?_ rfl
    show Except.bind ((Reader.u1 : Decoder Nat) b pc) _ = _
    rw [fd_u1 h, hx]
    show Except.bind ((Reader.u1 : Decoder Nat) b (pc + 1)) _ = _
    rw [fd_u1 (fd_tl h)]
    show Except.ok (Instr.aload (y.toNat), _) = _
    rw [Nat.eq_of_beq_eq_true hv]
  · cases hv
theorem fl_54 {b : ByteArray} {pc : Nat} {x : UInt8} {r : List UInt8} (h : b.data.toList.drop pc = x :: r) (hx : x.toNat = 54) {v : Nat} (hv : fo1 r v = true) : decode b pc = .ok (.istore v, 2) := by
  unfold fo1 at hv
  split at hv
  · rename_i y _
    refine fd_dec (n := pc + 2) ?_ rfl
    show Except.bind ((Reader.u1 : Decoder Nat) b pc) _ = _
    rw [fd_u1 h, hx]
    show Except.bind ((Reader.u1 : Decoder Nat) b (pc + 1)) _ = _
    rw [fd_u1 (fd_tl h)]
    show Except.ok (Instr.istore (y.toNat), _) = _
    rw [Nat.eq_of_beq_eq_true hv]
  · cases hv
theorem fl_55 {b : ByteArray} {pc : Nat} {x : UInt8} {r : List UInt8} (h : b.data.toList.drop pc = x :: r) (hx : x.toNat = 55) {v : Nat} (hv : fo1 r v = true) : decode b pc = .ok (.lstore v, 2) := by
  unfold fo1 at hv
  split at hv
  · rename_i y _
    refine fd_dec (n := pc + 2) ?_ rfl
    show Except.bind ((Reader.u1 : Decoder Nat) b pc) _ = _
    rw [fd_u1 h, hx]
    show Except.bind ((Reader.u1 : Decoder Nat) b (pc + 1)) _ = _
    rw [fd_u1 (fd_tl h)]
    show Except.ok (Instr.lstore (y.toNat), _) = _
    rw [Nat.eq_of_beq_eq_true hv]
  · cases hv
theorem fl_58 {b : ByteArray} {pc : Nat} {x : UInt8} {r : List UInt8} (h : b.data.toList.drop pc = x :: r) (hx : x.toNat = 58) {v : Nat} (hv : fo1 r v = true) : decode b pc = .ok (.astore v, 2) := by
  unfold fo1 at hv
  split at hv
  · rename_i y _
    refine fd_dec (n := pc + 2) ?_ rfl
    show Except.bind ((Reader.u1 : Decoder Nat) b pc) _ = _
    rw [fd_u1 h, hx]
    show Except.bind ((Reader.u1 : Decoder Nat) b (pc + 1)) _ = _
    rw [fd_u1 (fd_tl h)]
    show Except.ok (Instr.astore (y.toNat), _) = _
    rw [Nat.eq_of_beq_eq_true hv]
  · cases hv
theorem fl_18 {b : ByteArray} {pc : Nat} {x : UInt8} {r : List UInt8} (h : b.data.toList.drop pc = x :: r) (hx : x.toNat = 18) {v : Nat} (hv : fo1 r v = true) : decode b pc = .ok (.ldc v, 2) := by
  unfold fo1 at hv
  split at hv
  · rename_i y _
    refine fd_dec (n := pc + 2) ?_ rfl
    show Except.bind ((Reader.u1 : Decoder Nat) b pc) _ = _
    rw [fd_u1 h, hx]
    show Except.bind ((Reader.u1 : Decoder Nat) b (pc + 1)) _ = _
    rw [fd_u1 (fd_tl h)]
    show Except.ok (Instr.ldc (y.toNat), _) = _
    rw [Nat.eq_of_beq_eq_true hv]
  · cases hv
theorem fl_16 {b : ByteArray} {pc : Nat} {x : UInt8} {r : List UInt8} (h : b.data.toList.drop pc = x :: r) (hx : x.toNat = 16) {v : Int} (hv : fs1 r v = true) : decode b pc = .ok (.bipush v, 2) := by
  unfold fs1 at hv
  split at hv
  · rename_i y _
    refine fd_dec (n := pc + 2) ?_ rfl
    show Except.bind ((Reader.u1 : Decoder Nat) b pc) _ = _
    rw [fd_u1 h, hx]
    show Except.bind ((Reader.s1 : Decoder Int) b (pc + 1)) _ = _
    rw [fd_s1 (fd_tl h)]
    show Except.ok (Instr.bipush (Reader.signed 8 y.toNat), _) = _
    rw [of_decide_eq_true hv]
  · cases hv
theorem fl_180 {b : ByteArray} {pc : Nat} {x : UInt8} {r : List UInt8} (h : b.data.toList.drop pc = x :: r) (hx : x.toNat = 180) {v : Nat} (hv : fo2 r v = true) : decode b pc = .ok (.getfield v, 3) := by
  unfold fo2 at hv
  split at hv
  · rename_i y z _
    refine fd_dec (n := pc + 3) ?_ rfl
    show Except.bind ((Reader.u1 : Decoder Nat) b pc) _ = _
    rw [fd_u1 h, hx]
    show Except.bind ((Reader.u2 : Decoder Nat) b (pc + 1)) _ = _
    rw [fd_u2 (fd_tl h)]
    show Except.ok (Instr.getfield (y.toNat * 256 + z.toNat), _) = _
    rw [Nat.eq_of_beq_eq_true hv]
  · cases hv
theorem fl_181 {b : ByteArray} {pc : Nat} {x : UInt8} {r : List UInt8} (h : b.data.toList.drop pc = x :: r) (hx : x.toNat = 181) {v : Nat} (hv : fo2 r v = true) : decode b pc = .ok (.putfield v, 3) := by
  unfold fo2 at hv
  split at hv
  · rename_i y z _
    refine fd_dec (n := pc + 3) ?_ rfl
    show Except.bind ((Reader.u1 : Decoder Nat) b pc) _ = _
    rw [fd_u1 h, hx]
    show Except.bind ((Reader.u2 : Decoder Nat) b (pc + 1)) _ = _
    rw [fd_u2 (fd_tl h)]
    show Except.ok (Instr.putfield (y.toNat * 256 + z.toNat), _) = _
    rw [Nat.eq_of_beq_eq_true hv]
  · cases hv
theorem fl_178 {b : ByteArray} {pc : Nat} {x : UInt8} {r : List UInt8} (h : b.data.toList.drop pc = x :: r) (hx : x.toNat = 178) {v : Nat} (hv : fo2 r v = true) : decode b pc = .ok (.getstatic v, 3) := by
  unfold fo2 at hv
  split at hv
  · rename_i y z _
    refine fd_dec (n := pc + 3) ?_ rfl
    show Except.bind ((Reader.u1 : Decoder Nat) b pc) _ = _
    rw [fd_u1 h, hx]
    show Except.bind ((Reader.u2 : Decoder Nat) b (pc + 1)) _ = _
    rw [fd_u2 (fd_tl h)]
    show Except.ok (Instr.getstatic (y.toNat * 256 + z.toNat), _) = _
    rw [Nat.eq_of_beq_eq_true hv]
  · cases hv
theorem fl_182 {b : ByteArray} {pc : Nat} {x : UInt8} {r : List UInt8} (h : b.data.toList.drop pc = x :: r) (hx : x.toNat = 182) {v : Nat} (hv : fo2 r v = true) : decode b pc = .ok (.invokevirtual v, 3) := by
  unfold fo2 at hv
  split at hv
  · rename_i y z _
    refine fd_dec (n := pc + 3) ?_ rfl
    show Except.bind ((Reader.u1 : Decoder Nat) b pc) _ = _
    rw [fd_u1 h, hx]
    show Except.bind ((Reader.u2 : Decoder Nat) b (pc + 1)) _ = _
    rw [fd_u2 (fd_tl h)]
    show Except.ok (Instr.invokevirtual (y.toNat * 256 + z.toNat), _) = _
    rw [Nat.eq_of_beq_eq_true hv]
  · cases hv
theorem fl_183 {b : ByteArray} {pc : Nat} {x : UInt8} {r : List UInt8} (h : b.data.toList.drop pc = x :: r) (hx : x.toNat = 183) {v : Nat} (hv : fo2 r v = true) : decode b pc = .ok (.invokespecial v, 3) := by
  unfold fo2 at hv
  split at hv
  · rename_i y z _
    refine fd_dec (n := pc + 3) ?_ rfl
    show Except.bind ((Reader.u1 : Decoder Nat) b pc) _ = _
    rw [fd_u1 h, hx]
    show Except.bind ((Reader.u2 : Decoder Nat) b (pc + 1)) _ = _
    rw [fd_u2 (fd_tl h)]
    show Except.ok (Instr.invokespecial (y.toNat * 256 + z.toNat), _) = _
    rw [Nat.eq_of_beq_eq_true hv]
  · cases hv
theorem fl_184 {b : ByteArray} {pc : Nat} {x : UInt8} {r : List UInt8} (h : b.data.toList.drop pc = x :: r) (hx : x.toNat = 184) {v : Nat} (hv : fo2 r v = true) : decode b pc = .ok (.invokestatic v, 3) := by
  unfold fo2 at hv
  split at hv
  · rename_i y z _
    refine fd_dec (n := pc + 3) ?_ rfl
    show Except.bind ((Reader.u1 : Decoder Nat) b pc) _ = _
    rw [fd_u1 h, hx]
    show Except.bind ((Reader.u2 : Decoder Nat) b (pc + 1)) _ = _
    rw [fd_u2 (fd_tl h)]
    show Except.ok (Instr.invokestatic (y.toNat * 256 + z.toNat), _) = _
    rw [Nat.eq_of_beq_eq_true hv]
  · cases hv
theorem fl_187 {b : ByteArray} {pc : Nat} {x : UInt8} {r : List UInt8} (h : b.data.toList.drop pc = x :: r) (hx : x.toNat = 187) {v : Nat} (hv : fo2 r v = true) : decode b pc = .ok (.new v, 3) := by
  unfold fo2 at hv
  split at hv
  · rename_i y z _
    refine fd_dec (n := pc + 3) ?_ rfl
    show Except.bind ((Reader.u1 : Decoder Nat) b pc) _ = _
    rw [fd_u1 h, hx]
    show Except.bind ((Reader.u2 : Decoder Nat) b (pc + 1)) _ = _
    rw [fd_u2 (fd_tl h)]
    show Except.ok (Instr.new (y.toNat * 256 + z.toNat), _) = _
    rw [Nat.eq_of_beq_eq_true hv]
  · cases hv
theorem fl_19 {b : ByteArray} {pc : Nat} {x : UInt8} {r : List UInt8} (h : b.data.toList.drop pc = x :: r) (hx : x.toNat = 19) {v : Nat} (hv : fo2 r v = true) : decode b pc = .ok (.ldc_w v, 3) := by
  unfold fo2 at hv
  split at hv
  · rename_i y z _
    refine fd_dec (n := pc + 3) ?_ rfl
    show Except.bind ((Reader.u1 : Decoder Nat) b pc) _ = _
    rw [fd_u1 h, hx]
    show Except.bind ((Reader.u2 : Decoder Nat) b (pc + 1)) _ = _
    rw [fd_u2 (fd_tl h)]
    show Except.ok (Instr.ldc_w (y.toNat * 256 + z.toNat), _) = _
    rw [Nat.eq_of_beq_eq_true hv]
  · cases hv
theorem fl_20 {b : ByteArray} {pc : Nat} {x : UInt8} {r : List UInt8} (h : b.data.toList.drop pc = x :: r) (hx : x.toNat = 20) {v : Nat} (hv : fo2 r v = true) : decode b pc = .ok (.ldc2_w v, 3) := by
  unfold fo2 at hv
  split at hv
  · rename_i y z _
    refine fd_dec (n := pc + 3) ?_ rfl
    show Except.bind ((Reader.u1 : Decoder Nat) b pc) _ = _
    rw [fd_u1 h, hx]
    show Except.bind ((Reader.u2 : Decoder Nat) b (pc + 1)) _ = _
    rw [fd_u2 (fd_tl h)]
    show Except.ok (Instr.ldc2_w (y.toNat * 256 + z.toNat), _) = _
    rw [Nat.eq_of_beq_eq_true hv]
  · cases hv
theorem fl_167 {b : ByteArray} {pc : Nat} {x : UInt8} {r : List UInt8} (h : b.data.toList.drop pc = x :: r) (hx : x.toNat = 167) {v : Int} (hv : fs2 r v = true) : decode b pc = .ok (.goto v, 3) := by
  unfold fs2 at hv
  split at hv
  · rename_i y z _
    refine fd_dec (n := pc + 3) ?_ rfl
    show Except.bind ((Reader.u1 : Decoder Nat) b pc) _ = _
    rw [fd_u1 h, hx]
    show Except.bind ((Reader.s2 : Decoder Int) b (pc + 1)) _ = _
    rw [fd_s2 (fd_tl h)]
    show Except.ok (Instr.goto (Reader.signed 16 (y.toNat * 256 + z.toNat)), _) = _
    rw [of_decide_eq_true hv]
  · cases hv
theorem fl_17 {b : ByteArray} {pc : Nat} {x : UInt8} {r : List UInt8} (h : b.data.toList.drop pc = x :: r) (hx : x.toNat = 17) {v : Int} (hv : fs2 r v = true) : decode b pc = .ok (.sipush v, 3) := by
  unfold fs2 at hv
  split at hv
  · rename_i y z _
    refine fd_dec (n := pc + 3) ?_ rfl
    show Except.bind ((Reader.u1 : Decoder Nat) b pc) _ = _
    rw [fd_u1 h, hx]
    show Except.bind ((Reader.s2 : Decoder Int) b (pc + 1)) _ = _
    rw [fd_s2 (fd_tl h)]
    show Except.ok (Instr.sipush (Reader.signed 16 (y.toNat * 256 + z.toNat)), _) = _
    rw [of_decide_eq_true hv]
  · cases hv
theorem fl_153 {b : ByteArray} {pc : Nat} {x : UInt8} {r : List UInt8} (h : b.data.toList.drop pc = x :: r) (hx : x.toNat = 153) {v : Int} (hv : fs2 r v = true) : decode b pc = .ok (.ifCond .eq v, 3) := by
  unfold fs2 at hv
  split at hv
  · rename_i y z _
    refine fd_dec (n := pc + 3) ?_ rfl
    show Except.bind ((Reader.u1 : Decoder Nat) b pc) _ = _
    rw [fd_u1 h, hx]
    show Except.bind ((Reader.s2 : Decoder Int) b (pc + 1)) _ = _
    rw [fd_s2 (fd_tl h)]
    show Except.ok (Instr.ifCond ClassFile.Cond.eq (Reader.signed 16 (y.toNat * 256 + z.toNat)), _) = _
    rw [of_decide_eq_true hv]
  · cases hv
theorem fl_159 {b : ByteArray} {pc : Nat} {x : UInt8} {r : List UInt8} (h : b.data.toList.drop pc = x :: r) (hx : x.toNat = 159) {v : Int} (hv : fs2 r v = true) : decode b pc = .ok (.if_icmp .eq v, 3) := by
  unfold fs2 at hv
  split at hv
  · rename_i y z _
    refine fd_dec (n := pc + 3) ?_ rfl
    show Except.bind ((Reader.u1 : Decoder Nat) b pc) _ = _
    rw [fd_u1 h, hx]
    show Except.bind ((Reader.s2 : Decoder Int) b (pc + 1)) _ = _
    rw [fd_s2 (fd_tl h)]
    show Except.ok (Instr.if_icmp ClassFile.Cond.eq (Reader.signed 16 (y.toNat * 256 + z.toNat)), _) = _
    rw [of_decide_eq_true hv]
  · cases hv
theorem fl_154 {b : ByteArray} {pc : Nat} {x : UInt8} {r : List UInt8} (h : b.data.toList.drop pc = x :: r) (hx : x.toNat = 154) {v : Int} (hv : fs2 r v = true) : decode b pc = .ok (.ifCond .ne v, 3) := by
  unfold fs2 at hv
  split at hv
  · rename_i y z _
    refine fd_dec (n := pc + 3) ?_ rfl
    show Except.bind ((Reader.u1 : Decoder Nat) b pc) _ = _
    rw [fd_u1 h, hx]
    show Except.bind ((Reader.s2 : Decoder Int) b (pc + 1)) _ = _
    rw [fd_s2 (fd_tl h)]
    show Except.ok (Instr.ifCond ClassFile.Cond.ne (Reader.signed 16 (y.toNat * 256 + z.toNat)), _) = _
    rw [of_decide_eq_true hv]
  · cases hv
theorem fl_160 {b : ByteArray} {pc : Nat} {x : UInt8} {r : List UInt8} (h : b.data.toList.drop pc = x :: r) (hx : x.toNat = 160) {v : Int} (hv : fs2 r v = true) : decode b pc = .ok (.if_icmp .ne v, 3) := by
  unfold fs2 at hv
  split at hv
  · rename_i y z _
    refine fd_dec (n := pc + 3) ?_ rfl
    show Except.bind ((Reader.u1 : Decoder Nat) b pc) _ = _
    rw [fd_u1 h, hx]
    show Except.bind ((Reader.s2 : Decoder Int) b (pc + 1)) _ = _
    rw [fd_s2 (fd_tl h)]
    show Except.ok (Instr.if_icmp ClassFile.Cond.ne (Reader.signed 16 (y.toNat * 256 + z.toNat)), _) = _
    rw [of_decide_eq_true hv]
  · cases hv
theorem fl_155 {b : ByteArray} {pc : Nat} {x : UInt8} {r : List UInt8} (h : b.data.toList.drop pc = x :: r) (hx : x.toNat = 155) {v : Int} (hv : fs2 r v = true) : decode b pc = .ok (.ifCond .lt v, 3) := by
  unfold fs2 at hv
  split at hv
  · rename_i y z _
    refine fd_dec (n := pc + 3) ?_ rfl
    show Except.bind ((Reader.u1 : Decoder Nat) b pc) _ = _
    rw [fd_u1 h, hx]
    show Except.bind ((Reader.s2 : Decoder Int) b (pc + 1)) _ = _
    rw [fd_s2 (fd_tl h)]
    show Except.ok (Instr.ifCond ClassFile.Cond.lt (Reader.signed 16 (y.toNat * 256 + z.toNat)), _) = _
    rw [of_decide_eq_true hv]
  · cases hv
theorem fl_161 {b : ByteArray} {pc : Nat} {x : UInt8} {r : List UInt8} (h : b.data.toList.drop pc = x :: r) (hx : x.toNat = 161) {v : Int} (hv : fs2 r v = true) : decode b pc = .ok (.if_icmp .lt v, 3) := by
  unfold fs2 at hv
  split at hv
  · rename_i y z _
    refine fd_dec (n := pc + 3) ?_ rfl
    show Except.bind ((Reader.u1 : Decoder Nat) b pc) _ = _
    rw [fd_u1 h, hx]
    show Except.bind ((Reader.s2 : Decoder Int) b (pc + 1)) _ = _
    rw [fd_s2 (fd_tl h)]
    show Except.ok (Instr.if_icmp ClassFile.Cond.lt (Reader.signed 16 (y.toNat * 256 + z.toNat)), _) = _
    rw [of_decide_eq_true hv]
  · cases hv
theorem fl_156 {b : ByteArray} {pc : Nat} {x : UInt8} {r : List UInt8} (h : b.data.toList.drop pc = x :: r) (hx : x.toNat = 156) {v : Int} (hv : fs2 r v = true) : decode b pc = .ok (.ifCond .ge v, 3) := by
  unfold fs2 at hv
  split at hv
  · rename_i y z _
    refine fd_dec (n := pc + 3) ?_ rfl
    show Except.bind ((Reader.u1 : Decoder Nat) b pc) _ = _
    rw [fd_u1 h, hx]
    show Except.bind ((Reader.s2 : Decoder Int) b (pc + 1)) _ = _
    rw [fd_s2 (fd_tl h)]
    show Except.ok (Instr.ifCond ClassFile.Cond.ge (Reader.signed 16 (y.toNat * 256 + z.toNat)), _) = _
    rw [of_decide_eq_true hv]
  · cases hv
theorem fl_162 {b : ByteArray} {pc : Nat} {x : UInt8} {r : List UInt8} (h : b.data.toList.drop pc = x :: r) (hx : x.toNat = 162) {v : Int} (hv : fs2 r v = true) : decode b pc = .ok (.if_icmp .ge v, 3) := by
  unfold fs2 at hv
  split at hv
  · rename_i y z _
    refine fd_dec (n := pc + 3) ?_ rfl
    show Except.bind ((Reader.u1 : Decoder Nat) b pc) _ = _
    rw [fd_u1 h, hx]
    show Except.bind ((Reader.s2 : Decoder Int) b (pc + 1)) _ = _
    rw [fd_s2 (fd_tl h)]
    show Except.ok (Instr.if_icmp ClassFile.Cond.ge (Reader.signed 16 (y.toNat * 256 + z.toNat)), _) = _
    rw [of_decide_eq_true hv]
  · cases hv
theorem fl_157 {b : ByteArray} {pc : Nat} {x : UInt8} {r : List UInt8} (h : b.data.toList.drop pc = x :: r) (hx : x.toNat = 157) {v : Int} (hv : fs2 r v = true) : decode b pc = .ok (.ifCond .gt v, 3) := by
  unfold fs2 at hv
  split at hv
  · rename_i y z _
    refine fd_dec (n := pc + 3) ?_ rfl
    show Except.bind ((Reader.u1 : Decoder Nat) b pc) _ = _
    rw [fd_u1 h, hx]
    show Except.bind ((Reader.s2 : Decoder Int) b (pc + 1)) _ = _
    rw [fd_s2 (fd_tl h)]
    show Except.ok (Instr.ifCond ClassFile.Cond.gt (Reader.signed 16 (y.toNat * 256 + z.toNat)), _) = _
    rw [of_decide_eq_true hv]
  · cases hv
theorem fl_163 {b : ByteArray} {pc : Nat} {x : UInt8} {r : List UInt8} (h : b.data.toList.drop pc = x :: r) (hx : x.toNat = 163) {v : Int} (hv : fs2 r v = true) : decode b pc = .ok (.if_icmp .gt v, 3) := by
  unfold fs2 at hv
  split at hv
  · rename_i y z _
    refine fd_dec (n := pc + 3) ?_ rfl
    show Except.bind ((Reader.u1 : Decoder Nat) b pc) _ = _
    rw [fd_u1 h, hx]
    show Except.bind ((Reader.s2 : Decoder Int) b (pc + 1)) _ = _
    rw [fd_s2 (fd_tl h)]
    show Except.ok (Instr.if_icmp ClassFile.Cond.gt (Reader.signed 16 (y.toNat * 256 + z.toNat)), _) = _
    rw [of_decide_eq_true hv]
  · cases hv
theorem fl_158 {b : ByteArray} {pc : Nat} {x : UInt8} {r : List UInt8} (h : b.data.toList.drop pc = x :: r) (hx : x.toNat = 158) {v : Int} (hv : fs2 r v = true) : decode b pc = .ok (.ifCond .le v, 3) := by
  unfold fs2 at hv
  split at hv
  · rename_i y z _
    refine fd_dec (n := pc + 3) ?_ rfl
    show Except.bind ((Reader.u1 : Decoder Nat) b pc) _ = _
    rw [fd_u1 h, hx]
    show Except.bind ((Reader.s2 : Decoder Int) b (pc + 1)) _ = _
    rw [fd_s2 (fd_tl h)]
    show Except.ok (Instr.ifCond ClassFile.Cond.le (Reader.signed 16 (y.toNat * 256 + z.toNat)), _) = _
    rw [of_decide_eq_true hv]
  · cases hv
theorem fl_164 {b : ByteArray} {pc : Nat} {x : UInt8} {r : List UInt8} (h : b.data.toList.drop pc = x :: r) (hx : x.toNat = 164) {v : Int} (hv : fs2 r v = true) : decode b pc = .ok (.if_icmp .le v, 3) := by
  unfold fs2 at hv
  split at hv
  · rename_i y z _
    refine fd_dec (n := pc + 3) ?_ rfl
    show Except.bind ((Reader.u1 : Decoder Nat) b pc) _ = _
    rw [fd_u1 h, hx]
    show Except.bind ((Reader.s2 : Decoder Int) b (pc + 1)) _ = _
    rw [fd_s2 (fd_tl h)]
    show Except.ok (Instr.if_icmp ClassFile.Cond.le (Reader.signed 16 (y.toNat * 256 + z.toNat)), _) = _
    rw [of_decide_eq_true hv]
  · cases hv
theorem fl_132 {b : ByteArray} {pc : Nat} {x y z : UInt8} {r : List UInt8} (h : b.data.toList.drop pc = x :: y :: z :: r) (hx : x.toNat = 132) {n : Nat} {v : Int} (hn : y.toNat = n) (hv : Reader.signed 8 z.toNat = v) : decode b pc = .ok (.iinc n v, 3) := by
  refine fd_dec (n := pc + 3) ?_ rfl
  show Except.bind ((Reader.u1 : Decoder Nat) b pc) _ = _
  rw [fd_u1 h, hx]
  show Except.bind ((Reader.u1 : Decoder Nat) b (pc + 1)) _ = _
  rw [fd_u1 (fd_tl h)]
  show Except.bind ((Reader.s1 : Decoder Int) b (pc + 1 + 1)) _ = _
  rw [fd_s1 (fd_tl (fd_tl h))]
  show Except.ok (Instr.iinc y.toNat (Reader.signed 8 z.toNat), _) = _
  rw [hn, hv]
theorem fl_188_boolean {b : ByteArray} {pc : Nat} {x y : UInt8} {r : List UInt8} (h : b.data.toList.drop pc = x :: y :: r) (hx : x.toNat = 188) (hy : y.toNat = 4) : decode b pc = .ok (.newarray .boolean, 2) := by
  refine fd_dec (n := pc + 2) ?_ rfl
  show Except.bind ((Reader.u1 : Decoder Nat) b pc) _ = _
  rw [fd_u1 h, hx]
  show Except.bind ((Reader.u1 : Decoder Nat) b (pc + 1)) _ = _
  rw [fd_u1 (fd_tl h), hy]
  rfl
theorem fl_188_char {b : ByteArray} {pc : Nat} {x y : UInt8} {r : List UInt8} (h : b.data.toList.drop pc = x :: y :: r) (hx : x.toNat = 188) (hy : y.toNat = 5) : decode b pc = .ok (.newarray .char, 2) := by
  refine fd_dec (n := pc + 2) ?_ rfl
  show Except.bind ((Reader.u1 : Decoder Nat) b pc) _ = _
  rw [fd_u1 h, hx]
  show Except.bind ((Reader.u1 : Decoder Nat) b (pc + 1)) _ = _
  rw [fd_u1 (fd_tl h), hy]
  rfl
theorem fl_188_byte {b : ByteArray} {pc : Nat} {x y : UInt8} {r : List UInt8} (h : b.data.toList.drop pc = x :: y :: r) (hx : x.toNat = 188) (hy : y.toNat = 8) : decode b pc = .ok (.newarray .byte, 2) := by
  refine fd_dec (n := pc + 2) ?_ rfl
  show Except.bind ((Reader.u1 : Decoder Nat) b pc) _ = _
  rw [fd_u1 h, hx]
  show Except.bind ((Reader.u1 : Decoder Nat) b (pc + 1)) _ = _
  rw [fd_u1 (fd_tl h), hy]
  rfl
theorem fl_188_int {b : ByteArray} {pc : Nat} {x y : UInt8} {r : List UInt8} (h : b.data.toList.drop pc = x :: y :: r) (hx : x.toNat = 188) (hy : y.toNat = 10) : decode b pc = .ok (.newarray .int, 2) := by
  refine fd_dec (n := pc + 2) ?_ rfl
  show Except.bind ((Reader.u1 : Decoder Nat) b pc) _ = _
  rw [fd_u1 h, hx]
  show Except.bind ((Reader.u1 : Decoder Nat) b (pc + 1)) _ = _
  rw [fd_u1 (fd_tl h), hy]
  rfl
theorem fl_188_long {b : ByteArray} {pc : Nat} {x y : UInt8} {r : List UInt8} (h : b.data.toList.drop pc = x :: y :: r) (hx : x.toNat = 188) (hy : y.toNat = 11) : decode b pc = .ok (.newarray .long, 2) := by
  refine fd_dec (n := pc + 2) ?_ rfl
  show Except.bind ((Reader.u1 : Decoder Nat) b pc) _ = _
  rw [fd_u1 h, hx]
  show Except.bind ((Reader.u1 : Decoder Nat) b (pc + 1)) _ = _
  rw [fd_u1 (fd_tl h), hy]
  rfl
def fx (ins : Instr) (len : Nat) (bs : List UInt8) : Bool := match bs with
  | [] => false
  | x :: r => match ins with
    | .iaload => Nat.beq x.toNat 46 && Nat.beq len 1
    | .laload => Nat.beq x.toNat 47 && Nat.beq len 1
    | .aaload => Nat.beq x.toNat 50 && Nat.beq len 1
    | .baload => Nat.beq x.toNat 51 && Nat.beq len 1
    | .caload => Nat.beq x.toNat 52 && Nat.beq len 1
    | .iastore => Nat.beq x.toNat 79 && Nat.beq len 1
    | .lastore => Nat.beq x.toNat 80 && Nat.beq len 1
    | .aastore => Nat.beq x.toNat 83 && Nat.beq len 1
    | .bastore => Nat.beq x.toNat 84 && Nat.beq len 1
    | .castore => Nat.beq x.toNat 85 && Nat.beq len 1
    | .pop => Nat.beq x.toNat 87 && Nat.beq len 1
    | .dup => Nat.beq x.toNat 89 && Nat.beq len 1
    | .dup_x1 => Nat.beq x.toNat 90 && Nat.beq len 1
    | .dup2 => Nat.beq x.toNat 92 && Nat.beq len 1
    | .iadd => Nat.beq x.toNat 96 && Nat.beq len 1
    | .ladd => Nat.beq x.toNat 97 && Nat.beq len 1
    | .isub => Nat.beq x.toNat 100 && Nat.beq len 1
    | .lsub => Nat.beq x.toNat 101 && Nat.beq len 1
    | .imul => Nat.beq x.toNat 104 && Nat.beq len 1
    | .lmul => Nat.beq x.toNat 105 && Nat.beq len 1
    | .idiv => Nat.beq x.toNat 108 && Nat.beq len 1
    | .ldiv => Nat.beq x.toNat 109 && Nat.beq len 1
    | .irem => Nat.beq x.toNat 112 && Nat.beq len 1
    | .lrem => Nat.beq x.toNat 113 && Nat.beq len 1
    | .ineg => Nat.beq x.toNat 116 && Nat.beq len 1
    | .lneg => Nat.beq x.toNat 117 && Nat.beq len 1
    | .ishl => Nat.beq x.toNat 120 && Nat.beq len 1
    | .lshl => Nat.beq x.toNat 121 && Nat.beq len 1
    | .ishr => Nat.beq x.toNat 122 && Nat.beq len 1
    | .lshr => Nat.beq x.toNat 123 && Nat.beq len 1
    | .iushr => Nat.beq x.toNat 124 && Nat.beq len 1
    | .lushr => Nat.beq x.toNat 125 && Nat.beq len 1
    | .iand => Nat.beq x.toNat 126 && Nat.beq len 1
    | .land => Nat.beq x.toNat 127 && Nat.beq len 1
    | .ior => Nat.beq x.toNat 128 && Nat.beq len 1
    | .lor => Nat.beq x.toNat 129 && Nat.beq len 1
    | .ixor => Nat.beq x.toNat 130 && Nat.beq len 1
    | .lxor => Nat.beq x.toNat 131 && Nat.beq len 1
    | .i2l => Nat.beq x.toNat 133 && Nat.beq len 1
    | .l2i => Nat.beq x.toNat 136 && Nat.beq len 1
    | .i2b => Nat.beq x.toNat 145 && Nat.beq len 1
    | .i2c => Nat.beq x.toNat 146 && Nat.beq len 1
    | .lcmp => Nat.beq x.toNat 148 && Nat.beq len 1
    | .ireturn => Nat.beq x.toNat 172 && Nat.beq len 1
    | .lreturn => Nat.beq x.toNat 173 && Nat.beq len 1
    | .areturn => Nat.beq x.toNat 176 && Nat.beq len 1
    | .return_ => Nat.beq x.toNat 177 && Nat.beq len 1
    | .arraylength => Nat.beq x.toNat 190 && Nat.beq len 1
    | .athrow => Nat.beq x.toNat 191 && Nat.beq len 1
    | .aload_n n => Nat.beq x.toNat (42 + n.val) && Nat.beq len 1
    | .iload_n n => Nat.beq x.toNat (26 + n.val) && Nat.beq len 1
    | .lload_n n => Nat.beq x.toNat (30 + n.val) && Nat.beq len 1
    | .istore_n n => Nat.beq x.toNat (59 + n.val) && Nat.beq len 1
    | .lstore_n n => Nat.beq x.toNat (63 + n.val) && Nat.beq len 1
    | .astore_n n => Nat.beq x.toNat (75 + n.val) && Nat.beq len 1
    | .lconst n => Nat.beq x.toNat (9 + n.val) && Nat.beq len 1
    | .iconst i => Nat.ble 2 x.toNat && Nat.ble x.toNat 8 && decide ((x.toNat : Int) = 3 + i) && Nat.beq len 1
    | .iload v => Nat.beq x.toNat 21 && fo1 r v && Nat.beq len 2
    | .lload v => Nat.beq x.toNat 22 && fo1 r v && Nat.beq len 2
    | .aload v => Nat.beq x.toNat 25 && fo1 r v && Nat.beq len 2
    | .istore v => Nat.beq x.toNat 54 && fo1 r v && Nat.beq len 2
    | .lstore v => Nat.beq x.toNat 55 && fo1 r v && Nat.beq len 2
    | .astore v => Nat.beq x.toNat 58 && fo1 r v && Nat.beq len 2
    | .ldc v => Nat.beq x.toNat 18 && fo1 r v && Nat.beq len 2
    | .bipush v => Nat.beq x.toNat 16 && fs1 r v && Nat.beq len 2
    | .getfield v => Nat.beq x.toNat 180 && fo2 r v && Nat.beq len 3
    | .putfield v => Nat.beq x.toNat 181 && fo2 r v && Nat.beq len 3
    | .getstatic v => Nat.beq x.toNat 178 && fo2 r v && Nat.beq len 3
    | .invokevirtual v => Nat.beq x.toNat 182 && fo2 r v && Nat.beq len 3
    | .invokespecial v => Nat.beq x.toNat 183 && fo2 r v && Nat.beq len 3
    | .invokestatic v => Nat.beq x.toNat 184 && fo2 r v && Nat.beq len 3
    | .new v => Nat.beq x.toNat 187 && fo2 r v && Nat.beq len 3
    | .ldc_w v => Nat.beq x.toNat 19 && fo2 r v && Nat.beq len 3
    | .ldc2_w v => Nat.beq x.toNat 20 && fo2 r v && Nat.beq len 3
    | .goto v => Nat.beq x.toNat 167 && fs2 r v && Nat.beq len 3
    | .sipush v => Nat.beq x.toNat 17 && fs2 r v && Nat.beq len 3
    | .ifCond c v => (match c with
      | .eq => Nat.beq x.toNat 153
      | .ne => Nat.beq x.toNat 154
      | .lt => Nat.beq x.toNat 155
      | .ge => Nat.beq x.toNat 156
      | .gt => Nat.beq x.toNat 157
      | .le => Nat.beq x.toNat 158) && fs2 r v && Nat.beq len 3
    | .if_icmp c v => (match c with
      | .eq => Nat.beq x.toNat 159
      | .ne => Nat.beq x.toNat 160
      | .lt => Nat.beq x.toNat 161
      | .ge => Nat.beq x.toNat 162
      | .gt => Nat.beq x.toNat 163
      | .le => Nat.beq x.toNat 164) && fs2 r v && Nat.beq len 3
    | .iinc n v => (match r with
      | y :: z :: _ => Nat.beq x.toNat 132 && Nat.beq y.toNat n && decide (Reader.signed 8 z.toNat = v) && Nat.beq len 3
      | _ => false)
    | .newarray t => (match r with
      | y :: _ => Nat.beq x.toNat 188 && (match t with
        | .boolean => Nat.beq y.toNat 4
        | .char => Nat.beq y.toNat 5
        | .byte => Nat.beq y.toNat 8
        | .int => Nat.beq y.toNat 10
        | .long => Nat.beq y.toNat 11
        | _ => false) && Nat.beq len 2
      | _ => false)
    | _ => false
theorem fx_fin {b : ByteArray} {pc len l : Nat} {i : Instr} (h : decode b pc = .ok (i, l)) (hl : len = l) : pm_dc b pc i len = true := by
  subst hl
  unfold pm_dc
  rw [h]
  show (decide (i = i) && decide (len = len)) = true
  rw [decide_eq_true rfl, decide_eq_true rfl]
  rfl
theorem fx_ok {b : ByteArray} {pc len : Nat} {ins : Instr} {bs : List UInt8} (hb : b.data.toList.drop pc = bs) (h : fx ins len bs = true) : pm_dc b pc ins len = true := by
  match bs, hb, h with
  | [], hb, h => exact absurd (show false = true from h) Bool.false_ne_true
  | x :: r, hb, h =>
    cases ins with
    | iaload =>
      have h : (Nat.beq x.toNat 46 && Nat.beq len 1) = true := h
      rw [Bool.and_eq_true] at h
      exact fx_fin (fl_46 hb (Nat.eq_of_beq_eq_true h.1)) (Nat.eq_of_beq_eq_true h.2)
    | laload =>
      have h : (Nat.beq x.toNat 47 && Nat.beq len 1) = true := h
      rw [Bool.and_eq_true] at h
      exact fx_fin (fl_47 hb (Nat.eq_of_beq_eq_true h.1)) (Nat.eq_of_beq_eq_true h.2)
    | aaload =>
      have h : (Nat.beq x.toNat 50 && Nat.beq len 1) = true := h
      rw [Bool.and_eq_true] at h
      exact fx_fin (fl_50 hb (Nat.eq_of_beq_eq_true h.1)) (Nat.eq_of_beq_eq_true h.2)
    | baload =>
      have h : (Nat.beq x.toNat 51 && Nat.beq len 1) = true := h
      rw [Bool.and_eq_true] at h
      exact fx_fin (fl_51 hb (Nat.eq_of_beq_eq_true h.1)) (Nat.eq_of_beq_eq_true h.2)
    | caload =>
      have h : (Nat.beq x.toNat 52 && Nat.beq len 1) = true := h
      rw [Bool.and_eq_true] at h
      exact fx_fin (fl_52 hb (Nat.eq_of_beq_eq_true h.1)) (Nat.eq_of_beq_eq_true h.2)
    | iastore =>
      have h : (Nat.beq x.toNat 79 && Nat.beq len 1) = true := h
      rw [Bool.and_eq_true] at h
      exact fx_fin (fl_79 hb (Nat.eq_of_beq_eq_true h.1)) (Nat.eq_of_beq_eq_true h.2)
    | lastore =>
      have h : (Nat.beq x.toNat 80 && Nat.beq len 1) = true := h
      rw [Bool.and_eq_true] at h
      exact fx_fin (fl_80 hb (Nat.eq_of_beq_eq_true h.1)) (Nat.eq_of_beq_eq_true h.2)
    | aastore =>
      have h : (Nat.beq x.toNat 83 && Nat.beq len 1) = true := h
      rw [Bool.and_eq_true] at h
      exact fx_fin (fl_83 hb (Nat.eq_of_beq_eq_true h.1)) (Nat.eq_of_beq_eq_true h.2)
    | bastore =>
      have h : (Nat.beq x.toNat 84 && Nat.beq len 1) = true := h
      rw [Bool.and_eq_true] at h
      exact fx_fin (fl_84 hb (Nat.eq_of_beq_eq_true h.1)) (Nat.eq_of_beq_eq_true h.2)
    | castore =>
      have h : (Nat.beq x.toNat 85 && Nat.beq len 1) = true := h
      rw [Bool.and_eq_true] at h
      exact fx_fin (fl_85 hb (Nat.eq_of_beq_eq_true h.1)) (Nat.eq_of_beq_eq_true h.2)
    | pop =>
      have h : (Nat.beq x.toNat 87 && Nat.beq len 1) = true := h
      rw [Bool.and_eq_true] at h
      exact fx_fin (fl_87 hb (Nat.eq_of_beq_eq_true h.1)) (Nat.eq_of_beq_eq_true h.2)
    | dup =>
      have h : (Nat.beq x.toNat 89 && Nat.beq len 1) = true := h
      rw [Bool.and_eq_true] at h
      exact fx_fin (fl_89 hb (Nat.eq_of_beq_eq_true h.1)) (Nat.eq_of_beq_eq_true h.2)
    | dup_x1 =>
      have h : (Nat.beq x.toNat 90 && Nat.beq len 1) = true := h
      rw [Bool.and_eq_true] at h
      exact fx_fin (fl_90 hb (Nat.eq_of_beq_eq_true h.1)) (Nat.eq_of_beq_eq_true h.2)
    | dup2 =>
      have h : (Nat.beq x.toNat 92 && Nat.beq len 1) = true := h
      rw [Bool.and_eq_true] at h
      exact fx_fin (fl_92 hb (Nat.eq_of_beq_eq_true h.1)) (Nat.eq_of_beq_eq_true h.2)
    | iadd =>
      have h : (Nat.beq x.toNat 96 && Nat.beq len 1) = true := h
      rw [Bool.and_eq_true] at h
      exact fx_fin (fl_96 hb (Nat.eq_of_beq_eq_true h.1)) (Nat.eq_of_beq_eq_true h.2)
    | ladd =>
      have h : (Nat.beq x.toNat 97 && Nat.beq len 1) = true := h
      rw [Bool.and_eq_true] at h
      exact fx_fin (fl_97 hb (Nat.eq_of_beq_eq_true h.1)) (Nat.eq_of_beq_eq_true h.2)
    | isub =>
      have h : (Nat.beq x.toNat 100 && Nat.beq len 1) = true := h
      rw [Bool.and_eq_true] at h
      exact fx_fin (fl_100 hb (Nat.eq_of_beq_eq_true h.1)) (Nat.eq_of_beq_eq_true h.2)
    | lsub =>
      have h : (Nat.beq x.toNat 101 && Nat.beq len 1) = true := h
      rw [Bool.and_eq_true] at h
      exact fx_fin (fl_101 hb (Nat.eq_of_beq_eq_true h.1)) (Nat.eq_of_beq_eq_true h.2)
    | imul =>
      have h : (Nat.beq x.toNat 104 && Nat.beq len 1) = true := h
      rw [Bool.and_eq_true] at h
      exact fx_fin (fl_104 hb (Nat.eq_of_beq_eq_true h.1)) (Nat.eq_of_beq_eq_true h.2)
    | lmul =>
      have h : (Nat.beq x.toNat 105 && Nat.beq len 1) = true := h
      rw [Bool.and_eq_true] at h
      exact fx_fin (fl_105 hb (Nat.eq_of_beq_eq_true h.1)) (Nat.eq_of_beq_eq_true h.2)
    | idiv =>
      have h : (Nat.beq x.toNat 108 && Nat.beq len 1) = true := h
      rw [Bool.and_eq_true] at h
      exact fx_fin (fl_108 hb (Nat.eq_of_beq_eq_true h.1)) (Nat.eq_of_beq_eq_true h.2)
    | ldiv =>
      have h : (Nat.beq x.toNat 109 && Nat.beq len 1) = true := h
      rw [Bool.and_eq_true] at h
      exact fx_fin (fl_109 hb (Nat.eq_of_beq_eq_true h.1)) (Nat.eq_of_beq_eq_true h.2)
    | irem =>
      have h : (Nat.beq x.toNat 112 && Nat.beq len 1) = true := h
      rw [Bool.and_eq_true] at h
      exact fx_fin (fl_112 hb (Nat.eq_of_beq_eq_true h.1)) (Nat.eq_of_beq_eq_true h.2)
    | lrem =>
      have h : (Nat.beq x.toNat 113 && Nat.beq len 1) = true := h
      rw [Bool.and_eq_true] at h
      exact fx_fin (fl_113 hb (Nat.eq_of_beq_eq_true h.1)) (Nat.eq_of_beq_eq_true h.2)
    | ineg =>
      have h : (Nat.beq x.toNat 116 && Nat.beq len 1) = true := h
      rw [Bool.and_eq_true] at h
      exact fx_fin (fl_116 hb (Nat.eq_of_beq_eq_true h.1)) (Nat.eq_of_beq_eq_true h.2)
    | lneg =>
      have h : (Nat.beq x.toNat 117 && Nat.beq len 1) = true := h
      rw [Bool.and_eq_true] at h
      exact fx_fin (fl_117 hb (Nat.eq_of_beq_eq_true h.1)) (Nat.eq_of_beq_eq_true h.2)
    | ishl =>
      have h : (Nat.beq x.toNat 120 && Nat.beq len 1) = true := h
      rw [Bool.and_eq_true] at h
      exact fx_fin (fl_120 hb (Nat.eq_of_beq_eq_true h.1)) (Nat.eq_of_beq_eq_true h.2)
    | lshl =>
      have h : (Nat.beq x.toNat 121 && Nat.beq len 1) = true := h
      rw [Bool.and_eq_true] at h
      exact fx_fin (fl_121 hb (Nat.eq_of_beq_eq_true h.1)) (Nat.eq_of_beq_eq_true h.2)
    | ishr =>
      have h : (Nat.beq x.toNat 122 && Nat.beq len 1) = true := h
      rw [Bool.and_eq_true] at h
      exact fx_fin (fl_122 hb (Nat.eq_of_beq_eq_true h.1)) (Nat.eq_of_beq_eq_true h.2)
    | lshr =>
      have h : (Nat.beq x.toNat 123 && Nat.beq len 1) = true := h
      rw [Bool.and_eq_true] at h
      exact fx_fin (fl_123 hb (Nat.eq_of_beq_eq_true h.1)) (Nat.eq_of_beq_eq_true h.2)
    | iushr =>
      have h : (Nat.beq x.toNat 124 && Nat.beq len 1) = true := h
      rw [Bool.and_eq_true] at h
      exact fx_fin (fl_124 hb (Nat.eq_of_beq_eq_true h.1)) (Nat.eq_of_beq_eq_true h.2)
    | lushr =>
      have h : (Nat.beq x.toNat 125 && Nat.beq len 1) = true := h
      rw [Bool.and_eq_true] at h
      exact fx_fin (fl_125 hb (Nat.eq_of_beq_eq_true h.1)) (Nat.eq_of_beq_eq_true h.2)
    | iand =>
      have h : (Nat.beq x.toNat 126 && Nat.beq len 1) = true := h
      rw [Bool.and_eq_true] at h
      exact fx_fin (fl_126 hb (Nat.eq_of_beq_eq_true h.1)) (Nat.eq_of_beq_eq_true h.2)
    | land =>
      have h : (Nat.beq x.toNat 127 && Nat.beq len 1) = true := h
      rw [Bool.and_eq_true] at h
      exact fx_fin (fl_127 hb (Nat.eq_of_beq_eq_true h.1)) (Nat.eq_of_beq_eq_true h.2)
    | ior =>
      have h : (Nat.beq x.toNat 128 && Nat.beq len 1) = true := h
      rw [Bool.and_eq_true] at h
      exact fx_fin (fl_128 hb (Nat.eq_of_beq_eq_true h.1)) (Nat.eq_of_beq_eq_true h.2)
    | lor =>
      have h : (Nat.beq x.toNat 129 && Nat.beq len 1) = true := h
      rw [Bool.and_eq_true] at h
      exact fx_fin (fl_129 hb (Nat.eq_of_beq_eq_true h.1)) (Nat.eq_of_beq_eq_true h.2)
    | ixor =>
      have h : (Nat.beq x.toNat 130 && Nat.beq len 1) = true := h
      rw [Bool.and_eq_true] at h
      exact fx_fin (fl_130 hb (Nat.eq_of_beq_eq_true h.1)) (Nat.eq_of_beq_eq_true h.2)
    | lxor =>
      have h : (Nat.beq x.toNat 131 && Nat.beq len 1) = true := h
      rw [Bool.and_eq_true] at h
      exact fx_fin (fl_131 hb (Nat.eq_of_beq_eq_true h.1)) (Nat.eq_of_beq_eq_true h.2)
    | i2l =>
      have h : (Nat.beq x.toNat 133 && Nat.beq len 1) = true := h
      rw [Bool.and_eq_true] at h
      exact fx_fin (fl_133 hb (Nat.eq_of_beq_eq_true h.1)) (Nat.eq_of_beq_eq_true h.2)
    | l2i =>
      have h : (Nat.beq x.toNat 136 && Nat.beq len 1) = true := h
      rw [Bool.and_eq_true] at h
      exact fx_fin (fl_136 hb (Nat.eq_of_beq_eq_true h.1)) (Nat.eq_of_beq_eq_true h.2)
    | i2b =>
      have h : (Nat.beq x.toNat 145 && Nat.beq len 1) = true := h
      rw [Bool.and_eq_true] at h
      exact fx_fin (fl_145 hb (Nat.eq_of_beq_eq_true h.1)) (Nat.eq_of_beq_eq_true h.2)
    | i2c =>
      have h : (Nat.beq x.toNat 146 && Nat.beq len 1) = true := h
      rw [Bool.and_eq_true] at h
      exact fx_fin (fl_146 hb (Nat.eq_of_beq_eq_true h.1)) (Nat.eq_of_beq_eq_true h.2)
    | lcmp =>
      have h : (Nat.beq x.toNat 148 && Nat.beq len 1) = true := h
      rw [Bool.and_eq_true] at h
      exact fx_fin (fl_148 hb (Nat.eq_of_beq_eq_true h.1)) (Nat.eq_of_beq_eq_true h.2)
    | ireturn =>
      have h : (Nat.beq x.toNat 172 && Nat.beq len 1) = true := h
      rw [Bool.and_eq_true] at h
      exact fx_fin (fl_172 hb (Nat.eq_of_beq_eq_true h.1)) (Nat.eq_of_beq_eq_true h.2)
    | lreturn =>
      have h : (Nat.beq x.toNat 173 && Nat.beq len 1) = true := h
      rw [Bool.and_eq_true] at h
      exact fx_fin (fl_173 hb (Nat.eq_of_beq_eq_true h.1)) (Nat.eq_of_beq_eq_true h.2)
    | areturn =>
      have h : (Nat.beq x.toNat 176 && Nat.beq len 1) = true := h
      rw [Bool.and_eq_true] at h
      exact fx_fin (fl_176 hb (Nat.eq_of_beq_eq_true h.1)) (Nat.eq_of_beq_eq_true h.2)
    | return_ =>
      have h : (Nat.beq x.toNat 177 && Nat.beq len 1) = true := h
      rw [Bool.and_eq_true] at h
      exact fx_fin (fl_177 hb (Nat.eq_of_beq_eq_true h.1)) (Nat.eq_of_beq_eq_true h.2)
    | arraylength =>
      have h : (Nat.beq x.toNat 190 && Nat.beq len 1) = true := h
      rw [Bool.and_eq_true] at h
      exact fx_fin (fl_190 hb (Nat.eq_of_beq_eq_true h.1)) (Nat.eq_of_beq_eq_true h.2)
    | athrow =>
      have h : (Nat.beq x.toNat 191 && Nat.beq len 1) = true := h
      rw [Bool.and_eq_true] at h
      exact fx_fin (fl_191 hb (Nat.eq_of_beq_eq_true h.1)) (Nat.eq_of_beq_eq_true h.2)
    | aload_n n =>
      have h : (Nat.beq x.toNat (42 + n.val) && Nat.beq len 1) = true := h
      rw [Bool.and_eq_true] at h
      have h1 := Nat.eq_of_beq_eq_true h.1
      have h2 := Nat.eq_of_beq_eq_true h.2
      match n, h1 with
      | ⟨0, _⟩, h1 => exact fx_fin (fl_42 hb h1) h2
      | ⟨1, _⟩, h1 => exact fx_fin (fl_43 hb h1) h2
      | ⟨2, _⟩, h1 => exact fx_fin (fl_44 hb h1) h2
      | ⟨3, _⟩, h1 => exact fx_fin (fl_45 hb h1) h2
    | iload_n n =>
      have h : (Nat.beq x.toNat (26 + n.val) && Nat.beq len 1) = true := h
      rw [Bool.and_eq_true] at h
      have h1 := Nat.eq_of_beq_eq_true h.1
      have h2 := Nat.eq_of_beq_eq_true h.2
      match n, h1 with
      | ⟨0, _⟩, h1 => exact fx_fin (fl_26 hb h1) h2
      | ⟨1, _⟩, h1 => exact fx_fin (fl_27 hb h1) h2
      | ⟨2, _⟩, h1 => exact fx_fin (fl_28 hb h1) h2
      | ⟨3, _⟩, h1 => exact fx_fin (fl_29 hb h1) h2
    | lload_n n =>
      have h : (Nat.beq x.toNat (30 + n.val) && Nat.beq len 1) = true := h
      rw [Bool.and_eq_true] at h
      have h1 := Nat.eq_of_beq_eq_true h.1
      have h2 := Nat.eq_of_beq_eq_true h.2
      match n, h1 with
      | ⟨0, _⟩, h1 => exact fx_fin (fl_30 hb h1) h2
      | ⟨1, _⟩, h1 => exact fx_fin (fl_31 hb h1) h2
      | ⟨2, _⟩, h1 => exact fx_fin (fl_32 hb h1) h2
      | ⟨3, _⟩, h1 => exact fx_fin (fl_33 hb h1) h2
    | istore_n n =>
      have h : (Nat.beq x.toNat (59 + n.val) && Nat.beq len 1) = true := h
      rw [Bool.and_eq_true] at h
      have h1 := Nat.eq_of_beq_eq_true h.1
      have h2 := Nat.eq_of_beq_eq_true h.2
      match n, h1 with
      | ⟨0, _⟩, h1 => exact fx_fin (fl_59 hb h1) h2
      | ⟨1, _⟩, h1 => exact fx_fin (fl_60 hb h1) h2
      | ⟨2, _⟩, h1 => exact fx_fin (fl_61 hb h1) h2
      | ⟨3, _⟩, h1 => exact fx_fin (fl_62 hb h1) h2
    | lstore_n n =>
      have h : (Nat.beq x.toNat (63 + n.val) && Nat.beq len 1) = true := h
      rw [Bool.and_eq_true] at h
      have h1 := Nat.eq_of_beq_eq_true h.1
      have h2 := Nat.eq_of_beq_eq_true h.2
      match n, h1 with
      | ⟨0, _⟩, h1 => exact fx_fin (fl_63 hb h1) h2
      | ⟨1, _⟩, h1 => exact fx_fin (fl_64 hb h1) h2
      | ⟨2, _⟩, h1 => exact fx_fin (fl_65 hb h1) h2
      | ⟨3, _⟩, h1 => exact fx_fin (fl_66 hb h1) h2
    | astore_n n =>
      have h : (Nat.beq x.toNat (75 + n.val) && Nat.beq len 1) = true := h
      rw [Bool.and_eq_true] at h
      have h1 := Nat.eq_of_beq_eq_true h.1
      have h2 := Nat.eq_of_beq_eq_true h.2
      match n, h1 with
      | ⟨0, _⟩, h1 => exact fx_fin (fl_75 hb h1) h2
      | ⟨1, _⟩, h1 => exact fx_fin (fl_76 hb h1) h2
      | ⟨2, _⟩, h1 => exact fx_fin (fl_77 hb h1) h2
      | ⟨3, _⟩, h1 => exact fx_fin (fl_78 hb h1) h2
    | lconst n =>
      have h : (Nat.beq x.toNat (9 + n.val) && Nat.beq len 1) = true := h
      rw [Bool.and_eq_true] at h
      have h1 := Nat.eq_of_beq_eq_true h.1
      have h2 := Nat.eq_of_beq_eq_true h.2
      match n, h1 with
      | ⟨0, _⟩, h1 => exact fx_fin (fl_9 hb h1) h2
      | ⟨1, _⟩, h1 => exact fx_fin (fl_10 hb h1) h2
    | iconst i =>
      have h : (Nat.ble 2 x.toNat && Nat.ble x.toNat 8 && decide ((x.toNat : Int) = 3 + i) && Nat.beq len 1) = true := h
      rw [Bool.and_eq_true, Bool.and_eq_true, Bool.and_eq_true] at h
      have h1 := Nat.le_of_ble_eq_true h.1.1.1
      have h2 := Nat.le_of_ble_eq_true h.1.1.2
      have h3 := of_decide_eq_true h.1.2
      have h4 := Nat.eq_of_beq_eq_true h.2
      rcases (show (x.toNat = 2 ∧ i = -1) ∨ (x.toNat = 3 ∧ i = 0) ∨ (x.toNat = 4 ∧ i = 1) ∨ (x.toNat = 5 ∧ i = 2) ∨ (x.toNat = 6 ∧ i = 3) ∨ (x.toNat = 7 ∧ i = 4) ∨ (x.toNat = 8 ∧ i = 5) by omega) with ⟨e, rfl⟩ | ⟨e, rfl⟩ | ⟨e, rfl⟩ | ⟨e, rfl⟩ | ⟨e, rfl⟩ | ⟨e, rfl⟩ | ⟨e, rfl⟩
      · exact fx_fin (fl_2 hb e) h4
      · exact fx_fin (fl_3 hb e) h4
      · exact fx_fin (fl_4 hb e) h4
      · exact fx_fin (fl_5 hb e) h4
      · exact fx_fin (fl_6 hb e) h4
      · exact fx_fin (fl_7 hb e) h4
      · exact fx_fin (fl_8 hb e) h4
    | iload v =>
      have h : (Nat.beq x.toNat 21 && fo1 r v && Nat.beq len 2) = true := h
      rw [Bool.and_eq_true, Bool.and_eq_true] at h
      exact fx_fin (fl_21 hb (Nat.eq_of_beq_eq_true h.1.1) h.1.2) (Nat.eq_of_beq_eq_true h.2)
    | lload v =>
      have h : (Nat.beq x.toNat 22 && fo1 r v && Nat.beq len 2) = true := h
      rw [Bool.and_eq_true, Bool.and_eq_true] at h
      exact fx_fin (fl_22 hb (Nat.eq_of_beq_eq_true h.1.1) h.1.2) (Nat.eq_of_beq_eq_true h.2)
    | aload v =>
      have h : (Nat.beq x.toNat 25 && fo1 r v && Nat.beq len 2) = true := h
      rw [Bool.and_eq_true, Bool.and_eq_true] at h
      exact fx_fin (fl_25 hb (Nat.eq_of_beq_eq_true h.1.1) h.1.2) (Nat.eq_of_beq_eq_true h.2)
    | istore v =>
      have h : (Nat.beq x.toNat 54 && fo1 r v && Nat.beq len 2) = true := h
      rw [Bool.and_eq_true, Bool.and_eq_true] at h
      exact fx_fin (fl_54 hb (Nat.eq_of_beq_eq_true h.1.1) h.1.2) (Nat.eq_of_beq_eq_true h.2)
    | lstore v =>
      have h : (Nat.beq x.toNat 55 && fo1 r v && Nat.beq len 2) = true := h
      rw [Bool.and_eq_true, Bool.and_eq_true] at h
      exact fx_fin (fl_55 hb (Nat.eq_of_beq_eq_true h.1.1) h.1.2) (Nat.eq_of_beq_eq_true h.2)
    | astore v =>
      have h : (Nat.beq x.toNat 58 && fo1 r v && Nat.beq len 2) = true := h
      rw [Bool.and_eq_true, Bool.and_eq_true] at h
      exact fx_fin (fl_58 hb (Nat.eq_of_beq_eq_true h.1.1) h.1.2) (Nat.eq_of_beq_eq_true h.2)
    | ldc v =>
      have h : (Nat.beq x.toNat 18 && fo1 r v && Nat.beq len 2) = true := h
      rw [Bool.and_eq_true, Bool.and_eq_true] at h
      exact fx_fin (fl_18 hb (Nat.eq_of_beq_eq_true h.1.1) h.1.2) (Nat.eq_of_beq_eq_true h.2)
    | bipush v =>
      have h : (Nat.beq x.toNat 16 && fs1 r v && Nat.beq len 2) = true := h
      rw [Bool.and_eq_true, Bool.and_eq_true] at h
      exact fx_fin (fl_16 hb (Nat.eq_of_beq_eq_true h.1.1) h.1.2) (Nat.eq_of_beq_eq_true h.2)
    | getfield v =>
      have h : (Nat.beq x.toNat 180 && fo2 r v && Nat.beq len 3) = true := h
      rw [Bool.and_eq_true, Bool.and_eq_true] at h
      exact fx_fin (fl_180 hb (Nat.eq_of_beq_eq_true h.1.1) h.1.2) (Nat.eq_of_beq_eq_true h.2)
    | putfield v =>
      have h : (Nat.beq x.toNat 181 && fo2 r v && Nat.beq len 3) = true := h
      rw [Bool.and_eq_true, Bool.and_eq_true] at h
      exact fx_fin (fl_181 hb (Nat.eq_of_beq_eq_true h.1.1) h.1.2) (Nat.eq_of_beq_eq_true h.2)
    | getstatic v =>
      have h : (Nat.beq x.toNat 178 && fo2 r v && Nat.beq len 3) = true := h
      rw [Bool.and_eq_true, Bool.and_eq_true] at h
      exact fx_fin (fl_178 hb (Nat.eq_of_beq_eq_true h.1.1) h.1.2) (Nat.eq_of_beq_eq_true h.2)
    | invokevirtual v =>
      have h : (Nat.beq x.toNat 182 && fo2 r v && Nat.beq len 3) = true := h
      rw [Bool.and_eq_true, Bool.and_eq_true] at h
      exact fx_fin (fl_182 hb (Nat.eq_of_beq_eq_true h.1.1) h.1.2) (Nat.eq_of_beq_eq_true h.2)
    | invokespecial v =>
      have h : (Nat.beq x.toNat 183 && fo2 r v && Nat.beq len 3) = true := h
      rw [Bool.and_eq_true, Bool.and_eq_true] at h
      exact fx_fin (fl_183 hb (Nat.eq_of_beq_eq_true h.1.1) h.1.2) (Nat.eq_of_beq_eq_true h.2)
    | invokestatic v =>
      have h : (Nat.beq x.toNat 184 && fo2 r v && Nat.beq len 3) = true := h
      rw [Bool.and_eq_true, Bool.and_eq_true] at h
      exact fx_fin (fl_184 hb (Nat.eq_of_beq_eq_true h.1.1) h.1.2) (Nat.eq_of_beq_eq_true h.2)
    | new v =>
      have h : (Nat.beq x.toNat 187 && fo2 r v && Nat.beq len 3) = true := h
      rw [Bool.and_eq_true, Bool.and_eq_true] at h
      exact fx_fin (fl_187 hb (Nat.eq_of_beq_eq_true h.1.1) h.1.2) (Nat.eq_of_beq_eq_true h.2)
    | ldc_w v =>
      have h : (Nat.beq x.toNat 19 && fo2 r v && Nat.beq len 3) = true := h
      rw [Bool.and_eq_true, Bool.and_eq_true] at h
      exact fx_fin (fl_19 hb (Nat.eq_of_beq_eq_true h.1.1) h.1.2) (Nat.eq_of_beq_eq_true h.2)
    | ldc2_w v =>
      have h : (Nat.beq x.toNat 20 && fo2 r v && Nat.beq len 3) = true := h
      rw [Bool.and_eq_true, Bool.and_eq_true] at h
      exact fx_fin (fl_20 hb (Nat.eq_of_beq_eq_true h.1.1) h.1.2) (Nat.eq_of_beq_eq_true h.2)
    | goto v =>
      have h : (Nat.beq x.toNat 167 && fs2 r v && Nat.beq len 3) = true := h
      rw [Bool.and_eq_true, Bool.and_eq_true] at h
      exact fx_fin (fl_167 hb (Nat.eq_of_beq_eq_true h.1.1) h.1.2) (Nat.eq_of_beq_eq_true h.2)
    | sipush v =>
      have h : (Nat.beq x.toNat 17 && fs2 r v && Nat.beq len 3) = true := h
      rw [Bool.and_eq_true, Bool.and_eq_true] at h
      exact fx_fin (fl_17 hb (Nat.eq_of_beq_eq_true h.1.1) h.1.2) (Nat.eq_of_beq_eq_true h.2)
    | ifCond c v =>
      cases c with
      | eq =>
        have h : (Nat.beq x.toNat 153 && fs2 r v && Nat.beq len 3) = true := h
        rw [Bool.and_eq_true, Bool.and_eq_true] at h
        exact fx_fin (fl_153 hb (Nat.eq_of_beq_eq_true h.1.1) h.1.2) (Nat.eq_of_beq_eq_true h.2)
      | ne =>
        have h : (Nat.beq x.toNat 154 && fs2 r v && Nat.beq len 3) = true := h
        rw [Bool.and_eq_true, Bool.and_eq_true] at h
        exact fx_fin (fl_154 hb (Nat.eq_of_beq_eq_true h.1.1) h.1.2) (Nat.eq_of_beq_eq_true h.2)
      | lt =>
        have h : (Nat.beq x.toNat 155 && fs2 r v && Nat.beq len 3) = true := h
        rw [Bool.and_eq_true, Bool.and_eq_true] at h
        exact fx_fin (fl_155 hb (Nat.eq_of_beq_eq_true h.1.1) h.1.2) (Nat.eq_of_beq_eq_true h.2)
      | ge =>
        have h : (Nat.beq x.toNat 156 && fs2 r v && Nat.beq len 3) = true := h
        rw [Bool.and_eq_true, Bool.and_eq_true] at h
        exact fx_fin (fl_156 hb (Nat.eq_of_beq_eq_true h.1.1) h.1.2) (Nat.eq_of_beq_eq_true h.2)
      | gt =>
        have h : (Nat.beq x.toNat 157 && fs2 r v && Nat.beq len 3) = true := h
        rw [Bool.and_eq_true, Bool.and_eq_true] at h
        exact fx_fin (fl_157 hb (Nat.eq_of_beq_eq_true h.1.1) h.1.2) (Nat.eq_of_beq_eq_true h.2)
      | le =>
        have h : (Nat.beq x.toNat 158 && fs2 r v && Nat.beq len 3) = true := h
        rw [Bool.and_eq_true, Bool.and_eq_true] at h
        exact fx_fin (fl_158 hb (Nat.eq_of_beq_eq_true h.1.1) h.1.2) (Nat.eq_of_beq_eq_true h.2)
    | if_icmp c v =>
      cases c with
      | eq =>
        have h : (Nat.beq x.toNat 159 && fs2 r v && Nat.beq len 3) = true := h
        rw [Bool.and_eq_true, Bool.and_eq_true] at h
        exact fx_fin (fl_159 hb (Nat.eq_of_beq_eq_true h.1.1) h.1.2) (Nat.eq_of_beq_eq_true h.2)
      | ne =>
        have h : (Nat.beq x.toNat 160 && fs2 r v && Nat.beq len 3) = true := h
        rw [Bool.and_eq_true, Bool.and_eq_true] at h
        exact fx_fin (fl_160 hb (Nat.eq_of_beq_eq_true h.1.1) h.1.2) (Nat.eq_of_beq_eq_true h.2)
      | lt =>
        have h : (Nat.beq x.toNat 161 && fs2 r v && Nat.beq len 3) = true := h
        rw [Bool.and_eq_true, Bool.and_eq_true] at h
        exact fx_fin (fl_161 hb (Nat.eq_of_beq_eq_true h.1.1) h.1.2) (Nat.eq_of_beq_eq_true h.2)
      | ge =>
        have h : (Nat.beq x.toNat 162 && fs2 r v && Nat.beq len 3) = true := h
        rw [Bool.and_eq_true, Bool.and_eq_true] at h
        exact fx_fin (fl_162 hb (Nat.eq_of_beq_eq_true h.1.1) h.1.2) (Nat.eq_of_beq_eq_true h.2)
      | gt =>
        have h : (Nat.beq x.toNat 163 && fs2 r v && Nat.beq len 3) = true := h
        rw [Bool.and_eq_true, Bool.and_eq_true] at h
        exact fx_fin (fl_163 hb (Nat.eq_of_beq_eq_true h.1.1) h.1.2) (Nat.eq_of_beq_eq_true h.2)
      | le =>
        have h : (Nat.beq x.toNat 164 && fs2 r v && Nat.beq len 3) = true := h
        rw [Bool.and_eq_true, Bool.and_eq_true] at h
        exact fx_fin (fl_164 hb (Nat.eq_of_beq_eq_true h.1.1) h.1.2) (Nat.eq_of_beq_eq_true h.2)
    | iinc n v =>
      match r, hb, h with
      | y :: z :: r, hb, h =>
        have h : (Nat.beq x.toNat 132 && Nat.beq y.toNat n && decide (Reader.signed 8 z.toNat = v) && Nat.beq len 3) = true := h
        rw [Bool.and_eq_true, Bool.and_eq_true, Bool.and_eq_true] at h
        exact fx_fin (fl_132 hb (Nat.eq_of_beq_eq_true h.1.1.1) (Nat.eq_of_beq_eq_true h.1.1.2) (of_decide_eq_true h.1.2)) (Nat.eq_of_beq_eq_true h.2)
      | [], hb, h => exact absurd (show false = true from h) Bool.false_ne_true
      | [_], hb, h => exact absurd (show false = true from h) Bool.false_ne_true
    | newarray t =>
      match r, hb, h with
      | y :: r, hb, h =>
        cases t with
        | boolean =>
          have h : (Nat.beq x.toNat 188 && Nat.beq y.toNat 4 && Nat.beq len 2) = true := h
          rw [Bool.and_eq_true, Bool.and_eq_true] at h
          exact fx_fin (fl_188_boolean hb (Nat.eq_of_beq_eq_true h.1.1) (Nat.eq_of_beq_eq_true h.1.2)) (Nat.eq_of_beq_eq_true h.2)
        | char =>
          have h : (Nat.beq x.toNat 188 && Nat.beq y.toNat 5 && Nat.beq len 2) = true := h
          rw [Bool.and_eq_true, Bool.and_eq_true] at h
          exact fx_fin (fl_188_char hb (Nat.eq_of_beq_eq_true h.1.1) (Nat.eq_of_beq_eq_true h.1.2)) (Nat.eq_of_beq_eq_true h.2)
        | byte =>
          have h : (Nat.beq x.toNat 188 && Nat.beq y.toNat 8 && Nat.beq len 2) = true := h
          rw [Bool.and_eq_true, Bool.and_eq_true] at h
          exact fx_fin (fl_188_byte hb (Nat.eq_of_beq_eq_true h.1.1) (Nat.eq_of_beq_eq_true h.1.2)) (Nat.eq_of_beq_eq_true h.2)
        | int =>
          have h : (Nat.beq x.toNat 188 && Nat.beq y.toNat 10 && Nat.beq len 2) = true := h
          rw [Bool.and_eq_true, Bool.and_eq_true] at h
          exact fx_fin (fl_188_int hb (Nat.eq_of_beq_eq_true h.1.1) (Nat.eq_of_beq_eq_true h.1.2)) (Nat.eq_of_beq_eq_true h.2)
        | long =>
          have h : (Nat.beq x.toNat 188 && Nat.beq y.toNat 11 && Nat.beq len 2) = true := h
          rw [Bool.and_eq_true, Bool.and_eq_true] at h
          exact fx_fin (fl_188_long hb (Nat.eq_of_beq_eq_true h.1.1) (Nat.eq_of_beq_eq_true h.1.2)) (Nat.eq_of_beq_eq_true h.2)
        | _ =>
          have h : (Nat.beq x.toNat 188 && false && Nat.beq len 2) = true := h
          rw [Bool.and_false, Bool.false_and] at h
          cases h
      | [], hb, h => exact absurd (show false = true from h) Bool.false_ne_true
    | _ => exact absurd (show false = true from h) Bool.false_ne_true
/-- the rows one behind another -/
def fw (b : ByteArray) : List pm_I → Nat → List UInt8 → Bool
  | [], _, _ => true
  | i :: C, pc, bs => Nat.beq i.1 pc && (fx i.2.1 i.2.2.1 bs || pm_dc b pc i.2.1 i.2.2.1) && fw b C (pc + i.2.2.1) (bs.drop i.2.2.1)
theorem fw_ok {b : ByteArray} : ∀ {C : List pm_I} {pc : Nat} {bs : List UInt8}, b.data.toList.drop pc = bs → fw b C pc bs = true → ∀ i ∈ C, pm_dc b i.1 i.2.1 i.2.2.1 = true
  | [], _, _, _, _, i, hi => absurd hi List.not_mem_nil
  | j :: C, pc, bs, hb, h, i, hi => by
    unfold fw at h
    rw [Bool.and_eq_true, Bool.and_eq_true] at h
    have e := Nat.eq_of_beq_eq_true h.1.1
    rcases List.mem_cons.mp hi with rfl | hi
    · rw [e]
      have h2 := h.1.2
      rw [Bool.or_eq_true] at h2
      rcases h2 with h2 | h2
      · exact fx_ok hb h2
      · exact h2
    · exact fw_ok (C := C) (pc := pc + j.2.2.1) (bs := bs.drop j.2.2.1) (by rw [← hb, List.drop_drop]) h.2 i hi
def pm_chkr (M : pm_M) (idx : Nat) (i : pm_I) : Bool := match i with
  | (pc, ins, len, x, y, zs) => match ins with
    | .goto off => pm_tg M.2.2.2.2.2 x (pc + off) && decide (len = 3)
    | .ifCond _ off => pm_tg M.2.2.2.2.2 x (pc + off) && pm_tg M.2.2.2.2.2 (idx + 1) (pc + 3) && decide (len = 3)
    | .if_icmp _ off => pm_tg M.2.2.2.2.2 x (pc + off) && pm_tg M.2.2.2.2.2 (idx + 1) (pc + 3) && decide (len = 3)
    | .tableswitch d lo hi offs => pm_tg M.2.2.2.2.2 x (pc + d) && decide (zs.length = offs.size) && decide (hi = lo + zs.length - 1) && decide (-1000 ≤ lo ∧ hi ≤ 1000) && (zs.zip offs.toList).all (fun q => pm_tg M.2.2.2.2.2 q.1 (pc + q.2))
    | .lookupswitch d ps => pm_tg M.2.2.2.2.2 x (pc + d) && decide (zs.length = ps.size) && (ps.toList.zip (ps.toList.drop 1)).all (fun (a, next) => a.1 < next.1) && (zs.zip ps.toList).all (fun q => pm_tg M.2.2.2.2.2 q.1 (pc + q.2.2) && decide (-1000 ≤ q.2.1 ∧ q.2.1 ≤ 1000))
    | .ireturn => decide (len = 1)
    | .lreturn => decide (len = 1)
    | .return_ => decide (len = 1)
    | .athrow => true
    | .getfield k => pm_tg M.2.2.2.2.2 (idx + 1) (pc + 3) && decide (len = 3) && (match x with
      | 50 => pm_SF.contains (M.2.2.2.2.1, k, y)
      | _ => pm_FL.contains (M.2.2.2.2.1, k, x, y) && (match pm_nth pm_cls x with
        | some q => decide (y < q.2.2)
        | none => false))
    | .putfield k => pm_tg M.2.2.2.2.2 (idx + 1) (pc + 3) && decide (len = 3) && pm_FL.contains (M.2.2.2.2.1, k, x, y) && pm_chkp x y zs M.2.2.2.2.1 M.1.name
    | .getstatic k => pm_tg M.2.2.2.2.2 (idx + 1) (pc + 3) && decide (len = 3) && pm_GL.contains (M.2.2.2.2.1, k, x)
    | .ldc k => pm_tg M.2.2.2.2.2 (idx + 1) (pc + 2) && decide (len = 2) && (match y with
      | 7 => decide (M.2.2.2.2.1 = 2) && (match x with
        | 0 => decide (k = 137)
        | 1 => decide (k = 152)
        | _ => false)
      | _ => pm_CL.contains (M.2.2.2.2.1, k, x))
    | .ldc_w k => pm_tg M.2.2.2.2.2 (idx + 1) (pc + 3) && decide (len = 3) && pm_CL.contains (M.2.2.2.2.1, k, x)
    | .ldc2_w k => pm_tg M.2.2.2.2.2 (idx + 1) (pc + 3) && decide (len = 3) && pm_NL.contains (M.2.2.2.2.1, k, x, y) && decide (y < 2)
    | .iconst n => pm_tg M.2.2.2.2.2 (idx + 1) (pc + 1) && decide (len = 1) && decide (Int32.ofInt n = pm_iv x y)
    | .bipush n => pm_tg M.2.2.2.2.2 (idx + 1) (pc + 2) && decide (len = 2) && decide ((Int8.ofInt n).toInt32 = pm_iv x y)
    | .sipush n => pm_tg M.2.2.2.2.2 (idx + 1) (pc + 3) && decide (len = 3) && decide ((Int16.ofInt n).toInt32 = pm_iv x y)
    | .lconst n => pm_tg M.2.2.2.2.2 (idx + 1) (pc + 1) && decide (len = 1) && decide (Int64.ofNat n.val = pm_lv x y)
    | .new k => pm_tg M.2.2.2.2.2 (idx + 1) (pc + 3) && decide (len = 3) && pm_NW.contains (M.2.2.2.2.1, k, x) && decide (x < 13)
    | .newarray _ => pm_tg M.2.2.2.2.2 (idx + 1) (pc + 2) && decide (len = 2)
    | .invokevirtual k => match x with
      | 9999 => true
      | _ => pm_tg M.2.2.2.2.2 (idx + 1) (pc + 3) && decide (len = 3) && pm_ML.contains (M.2.2.2.2.1, k, x) && pm_KI.contains x && pm_KE.contains x && pm_chkc x y (fun N => decide (zs = [N.2.2.2.2.1]))
    | .invokestatic k => match x with
      | 9999 => true
      | _ => pm_tg M.2.2.2.2.2 (idx + 1) (pc + 3) && decide (len = 3) && (match Nat.ble 1000 x with
        | true => pm_MI.contains (M.2.2.2.2.1, k, x)
        | false => pm_KS.contains x && (pm_ML.contains (M.2.2.2.2.1, k, x) || pm_MN.contains (M.2.2.2.2.1, k, x)) && pm_chkc x y (fun _ => true))
    | .invokespecial k => match x with
      | 9999 => true
      | 1004 => pm_tg M.2.2.2.2.2 (idx + 1) (pc + 3) && decide (len = 3) && pm_MI.contains (M.2.2.2.2.1, k, 1004)
      | _ => pm_tg M.2.2.2.2.2 (idx + 1) (pc + 3) && decide (len = 3) && pm_KI.contains x && (pm_ML.contains (M.2.2.2.2.1, k, x) || pm_MN.contains (M.2.2.2.2.1, k, x)) && pm_chkc x y (fun N => decide (N.1.name = "<init>") && decide (N.2.2.2.1 = none))
    | .aload _ | .iload _ | .lload _ | .astore _ | .istore _ | .lstore _ => pm_tg M.2.2.2.2.2 (idx + 1) (pc + 2) && decide (len = 2)
    | .iinc _ _ => pm_tg M.2.2.2.2.2 (idx + 1) (pc + 3) && decide (len = 3)
    | _ => pm_tg M.2.2.2.2.2 (idx + 1) (pc + 1) && decide (len = 1)
theorem pm_chkr_eq (M : pm_M) (idx : Nat) : ∀ i : pm_I, pm_chk1 M idx i = (pm_dc M.2.1 i.1 i.2.1 i.2.2.1 && pm_chkr M idx i)
  | (_, _, _, _, _, _) => rfl
def pm_chkN (M : pm_M) : Bool := fw M.2.1 M.2.2.2.2.2 0 M.2.1.data.toList && (M.2.2.2.2.2.zipIdx).all (fun q => pm_chkr M q.2 q.1) && decide (M.1.cls = pm_cn.getD M.2.2.2.2.1 "") && decide (M.2.2.2.2.1 < 19) && decide (plainName M.1.cls = true)
theorem pm_chkN_ok {M : pm_M} (h : pm_chkN M = true) : pm_chk M = true := by
  unfold pm_chkN at h
  rw [Bool.and_eq_true, Bool.and_eq_true, Bool.and_eq_true, Bool.and_eq_true] at h
  have h1 := fw_ok (C := M.2.2.2.2.2) (pc := 0) (bs := M.2.1.data.toList) rfl h.1.1.1.1
  unfold pm_chk
  rw [Bool.and_eq_true, Bool.and_eq_true, Bool.and_eq_true]
  refine ⟨⟨⟨List.all_eq_true.mpr (fun q hq => ?_), h.1.1.2⟩, h.1.2⟩, h.2⟩
  rw [pm_chkr_eq, Bool.and_eq_true]
  refine ⟨h1 q.1 ?_, List.all_eq_true.mp h.1.1.1.2 q hq⟩
  have hm : q.1 ∈ (M.2.2.2.2.2.zipIdx).map Prod.fst := List.mem_map_of_mem hq
  rw [List.zipIdx_map_fst] at hm
  exact hm
