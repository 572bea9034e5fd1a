/-! the tables' check: every row of every method's code is what the bytes decode to, its operands are what the tables say -/
def pm_tg (C : List pm_I) (t : Nat) (v : Int) : Bool := match pm_nth C t with
  | some e => decide ((e.1 : Int) = v)
  | none => false
def pm_dc (b : ByteArray) (pc : Nat) (ins : Instr) (len : Nat) : Bool := match decode b pc with
  | .ok q => decide (q.1 = ins) && decide (q.2 = len)
  | .error _ => false
def pm_chkp (x y : Nat) (zs : List Nat) (own : Nat) (nm : String) : Bool := match pm_nth pm_cls x with
  | some q => decide (y < q.2.2) && (match parseFieldDescriptor (q.2.1 y).2.2.1 with
    | some .int => decide (zs = [0]) && !(q.2.1 y).2.2.2
    | some .boolean => decide (zs = [1]) && !(q.2.1 y).2.2.2
    | some (.object _) => decide (zs = [2]) && (q.2.1 y).2.2.2 && decide (nm = "<init>") && decide ((q.2.1 y).1 = pm_cn.getD own "")
    | some (.array _) => decide (zs = [2]) && (q.2.1 y).2.2.2 && decide (nm = "<init>") && decide ((q.2.1 y).1 = pm_cn.getD own "")
    | _ => false)
  | none => false
/-- a call's row: the method's number of parameters, its class -/
def pm_chkc (x y : Nat) (b : pm_M → Bool) : Bool := match pm_nth pm_tab x with
  | some M => decide (M.1.cls ≠ "java/lang/invoke/MethodHandle") && decide (M.1.cls ≠ "java/lang/invoke/VarHandle") && decide ((parseMethodDescriptor M.1.desc).map (fun d => d.parameters.length) = some y) && decide (M.2.2.1 ≤ 40) && Nat.blt x 256 && b M
  | none => false
def pm_chk1 (M : pm_M) (idx : Nat) (i : pm_I) : Bool := match i with
  | (pc, ins, len, x, y, zs) => pm_dc M.2.1 pc ins len && match ins with
    | .goto off => pm_tg M.2.2.2.2.2 x (pc + off) && decide (len = 3)
    | .ifCond _ off => pm_tg M.2.2.2.2.2 x (pc + off) && pm_tg M.2.2.2.2.2 (idx + 1) (pc + 3) && decide (len = 3)
    | .if_icmp _ off => pm_tg M.2.2.2.2.2 x (pc + off) && pm_tg M.2.2.2.2.2 (idx + 1) (pc + 3) && decide (len = 3)
    | .tableswitch d lo hi offs => pm_tg M.2.2.2.2.2 x (pc + d) && decide (zs.length = offs.size) && decide (hi = lo + zs.length - 1) && decide (-1000 ≤ lo ∧ hi ≤ 1000) && (zs.zip offs.toList).all (fun q => pm_tg M.2.2.2.2.2 q.1 (pc + q.2))
    | .lookupswitch d ps => pm_tg M.2.2.2.2.2 x (pc + d) && decide (zs.length = ps.size) && (ps.toList.zip (ps.toList.drop 1)).all (fun (a, next) => a.1 < next.1) && (zs.zip ps.toList).all (fun q => pm_tg M.2.2.2.2.2 q.1 (pc + q.2.2) && decide (-1000 ≤ q.2.1 ∧ q.2.1 ≤ 1000))
    | .ireturn => decide (len = 1)
    | .lreturn => decide (len = 1)
    | .return_ => decide (len = 1)
    | .athrow => true
    | .getfield k => pm_tg M.2.2.2.2.2 (idx + 1) (pc + 3) && decide (len = 3) && (match x with
      | 50 => pm_SF.contains (M.2.2.2.2.1, k, y)
      | _ => pm_FL.contains (M.2.2.2.2.1, k, x, y) && (match pm_nth pm_cls x with
        | some q => decide (y < q.2.2)
        | none => false))
    | .putfield k => pm_tg M.2.2.2.2.2 (idx + 1) (pc + 3) && decide (len = 3) && pm_FL.contains (M.2.2.2.2.1, k, x, y) && pm_chkp x y zs M.2.2.2.2.1 M.1.name
    | .getstatic k => pm_tg M.2.2.2.2.2 (idx + 1) (pc + 3) && decide (len = 3) && pm_GL.contains (M.2.2.2.2.1, k, x)
    | .ldc k => pm_tg M.2.2.2.2.2 (idx + 1) (pc + 2) && decide (len = 2) && (match y with
      | 7 => decide (M.2.2.2.2.1 = 2) && (match x with
        | 0 => decide (k = 137)
        | 1 => decide (k = 152)
        | _ => false)
      | _ => pm_CL.contains (M.2.2.2.2.1, k, x))
    | .ldc_w k => pm_tg M.2.2.2.2.2 (idx + 1) (pc + 3) && decide (len = 3) && pm_CL.contains (M.2.2.2.2.1, k, x)
    | .ldc2_w k => pm_tg M.2.2.2.2.2 (idx + 1) (pc + 3) && decide (len = 3) && pm_NL.contains (M.2.2.2.2.1, k, x, y) && decide (y < 2)
    | .iconst n => pm_tg M.2.2.2.2.2 (idx + 1) (pc + 1) && decide (len = 1) && decide (Int32.ofInt n = pm_iv x y)
    | .bipush n => pm_tg M.2.2.2.2.2 (idx + 1) (pc + 2) && decide (len = 2) && decide ((Int8.ofInt n).toInt32 = pm_iv x y)
    | .sipush n => pm_tg M.2.2.2.2.2 (idx + 1) (pc + 3) && decide (len = 3) && decide ((Int16.ofInt n).toInt32 = pm_iv x y)
    | .lconst n => pm_tg M.2.2.2.2.2 (idx + 1) (pc + 1) && decide (len = 1) && decide (Int64.ofNat n.val = pm_lv x y)
    | .new k => pm_tg M.2.2.2.2.2 (idx + 1) (pc + 3) && decide (len = 3) && pm_NW.contains (M.2.2.2.2.1, k, x) && decide (x < 13)
    | .newarray _ => pm_tg M.2.2.2.2.2 (idx + 1) (pc + 2) && decide (len = 2)
    | .invokevirtual k => match x with
      | 9999 => true
      | _ => pm_tg M.2.2.2.2.2 (idx + 1) (pc + 3) && decide (len = 3) && pm_ML.contains (M.2.2.2.2.1, k, x) && pm_KI.contains x && pm_KE.contains x && pm_chkc x y (fun N => decide (zs = [N.2.2.2.2.1]))
    | .invokestatic k => match x with
      | 9999 => true
      | _ => pm_tg M.2.2.2.2.2 (idx + 1) (pc + 3) && decide (len = 3) && (match Nat.ble 1000 x with
        | true => pm_MI.contains (M.2.2.2.2.1, k, x)
        | false => pm_KS.contains x && (pm_ML.contains (M.2.2.2.2.1, k, x) || pm_MN.contains (M.2.2.2.2.1, k, x)) && pm_chkc x y (fun _ => true))
    | .invokespecial k => match x with
      | 9999 => true
      | 1004 => pm_tg M.2.2.2.2.2 (idx + 1) (pc + 3) && decide (len = 3) && pm_MI.contains (M.2.2.2.2.1, k, 1004)
      | _ => pm_tg M.2.2.2.2.2 (idx + 1) (pc + 3) && decide (len = 3) && pm_KI.contains x && (pm_ML.contains (M.2.2.2.2.1, k, x) || pm_MN.contains (M.2.2.2.2.1, k, x)) && pm_chkc x y (fun N => decide (N.1.name = "<init>") && decide (N.2.2.2.1 = none))
    | .aload _ | .iload _ | .lload _ | .astore _ | .istore _ | .lstore _ => pm_tg M.2.2.2.2.2 (idx + 1) (pc + 2) && decide (len = 2)
    | .iinc _ _ => pm_tg M.2.2.2.2.2 (idx + 1) (pc + 3) && decide (len = 3)
    | _ => pm_tg M.2.2.2.2.2 (idx + 1) (pc + 1) && decide (len = 1)
def pm_chk (M : pm_M) : Bool := (M.2.2.2.2.2.zipIdx).all (fun q => pm_chk1 M q.2 q.1) && decide (M.1.cls = pm_cn.getD M.2.2.2.2.1 "") && decide (M.2.2.2.2.1 < 19) && decide (plainName M.1.cls = true)
