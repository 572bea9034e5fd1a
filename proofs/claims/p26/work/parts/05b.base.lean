def pm_nth {α : Type} : List α → Nat → Option α
  | [], _ => none
  | a :: _, 0 => some a
  | _ :: l, n + 1 => pm_nth l n
def pm_iv (x y : Nat) : Int32 := match y with
  | 0 => nI x
  | _ => -nI x
def pm_lv (x y : Nat) : Int64 := match y with
  | 0 => lN x
  | _ => -lN x
