/-! the classes, their fields, the methods: names (by program out of the claim's texts) -/
def pT_0 : u_T := fun k => match k with
  | 0 => ("PaidWhereMade$Debts", "count", "I", false)
  | 1 => ("PaidWhereMade$Debts", "debtor", "[I", true)
  | 2 => ("PaidWhereMade$Debts", "creditor", "[I", true)
  | 3 => ("PaidWhereMade$Debts", "coins", "[I", true)
  | 4 => ("PaidWhereMade$Debts", "place", "[I", true)
  | 5 => ("PaidWhereMade$Debts", "made", "[I", true)
  | 6 => ("PaidWhereMade$Debts", "paidOn", "[I", true)
  | _ => ("PaidWhereMade$Debts", "how", "[I", true)
def pt_0 : Nat → FieldType := fun k => match k with
  | 0 => .int
  | 1 => .array .int
  | 2 => .array .int
  | 3 => .array .int
  | 4 => .array .int
  | 5 => .array .int
  | 6 => .array .int
  | _ => .array .int
theorem pn_0 : ∀ a, a < 8 → ∀ b, b < 8 → a ≠ b → (pT_0 a).2.1 ≠ (pT_0 b).2.1 := by decide +kernel
theorem pt_0_ok : ∀ k, k < 8 → parseFieldDescriptor (pT_0 k).2.2.1 = some (pt_0 k) := by decide +kernel
def pT_1 : u_T := fun k => match k with
  | 0 => ("PaidWhereMade$Law", "lines", "I", false)
  | 1 => ("PaidWhereMade$Law", "size", "I", false)
  | 2 => ("PaidWhereMade$Law", "top", "I", false)
  | 3 => ("PaidWhereMade$Law", "words", "[I", true)
  | _ => ("PaidWhereMade$Law", "stack", "[I", true)
def pt_1 : Nat → FieldType := fun k => match k with
  | 0 => .int
  | 1 => .int
  | 2 => .int
  | 3 => .array .int
  | _ => .array .int
theorem pn_1 : ∀ a, a < 5 → ∀ b, b < 5 → a ≠ b → (pT_1 a).2.1 ≠ (pT_1 b).2.1 := by decide +kernel
theorem pt_1_ok : ∀ k, k < 5 → parseFieldDescriptor (pT_1 k).2.2.1 = some (pt_1 k) := by decide +kernel
def pT_2 : u_T := fun k => match k with
  | 0 => ("PaidWhereMade$LawReader", "fault", "I", false)
  | 1 => ("PaidWhereMade$LawReader", "faultPlace", "I", false)
  | 2 => ("PaidWhereMade$LawReader", "length", "I", false)
  | 3 => ("PaidWhereMade$LawReader", "tape", "[I", true)
  | 4 => ("PaidWhereMade$LawReader", "draft", "LPaidWhereMade$Law;", true)
  | 5 => ("PaidWhereMade$LawReader", "tokens", "[I", true)
  | 6 => ("PaidWhereMade$LawReader", "places", "[I", true)
  | 7 => ("PaidWhereMade$LawReader", "tokenCount", "I", false)
  | 8 => ("PaidWhereMade$LawReader", "at", "I", false)
  | _ => ("PaidWhereMade$LawReader", "token", "I", false)
def pt_2 : Nat → FieldType := fun k => match k with
  | 0 => .int
  | 1 => .int
  | 2 => .int
  | 3 => .array .int
  | 4 => .object "PaidWhereMade$Law"
  | 5 => .array .int
  | 6 => .array .int
  | 7 => .int
  | 8 => .int
  | _ => .int
theorem pn_2 : ∀ a, a < 10 → ∀ b, b < 10 → a ≠ b → (pT_2 a).2.1 ≠ (pT_2 b).2.1 := by decide +kernel
theorem pt_2_ok : ∀ k, k < 10 → parseFieldDescriptor (pT_2 k).2.2.1 = some (pt_2 k) := by decide +kernel
def pT_3 : u_T := fun k => match k with
  | 0 => ("PaidWhereMade$Lines", "count", "I", false)
  | 1 => ("PaidWhereMade$Lines", "day", "[I", true)
  | 2 => ("PaidWhereMade$Lines", "who", "[I", true)
  | 3 => ("PaidWhereMade$Lines", "other", "[I", true)
  | 4 => ("PaidWhereMade$Lines", "place", "[I", true)
  | 5 => ("PaidWhereMade$Lines", "named", "[I", true)
  | 6 => ("PaidWhereMade$Lines", "seats", "[I", true)
  | 7 => ("PaidWhereMade$Lines", "tally", "[I", true)
  | 8 => ("PaidWhereMade$Lines", "together", "[I", true)
  | _ => ("PaidWhereMade$Lines", "fewest", "[I", true)
def pt_3 : Nat → FieldType := fun k => match k with
  | 0 => .int
  | 1 => .array .int
  | 2 => .array .int
  | 3 => .array .int
  | 4 => .array .int
  | 5 => .array .int
  | 6 => .array .int
  | 7 => .array .int
  | 8 => .array .int
  | _ => .array .int
theorem pn_3 : ∀ a, a < 10 → ∀ b, b < 10 → a ≠ b → (pT_3 a).2.1 ≠ (pT_3 b).2.1 := by decide +kernel
theorem pt_3_ok : ∀ k, k < 10 → parseFieldDescriptor (pT_3 k).2.2.1 = some (pt_3 k) := by decide +kernel
def pT_4 : u_T := fun k => match k with
  | 0 => ("PaidWhereMade$People", "count", "I", false)
  | 1 => ("PaidWhereMade$People", "home", "[I", true)
  | 2 => ("PaidWhereMade$People", "coin", "[I", true)
  | 3 => ("PaidWhereMade$People", "age", "[I", true)
  | 4 => ("PaidWhereMade$People", "goal", "[I", true)
  | _ => ("PaidWhereMade$People", "stood", "[I", true)
def pt_4 : Nat → FieldType := fun k => match k with
  | 0 => .int
  | 1 => .array .int
  | 2 => .array .int
  | 3 => .array .int
  | 4 => .array .int
  | _ => .array .int
theorem pn_4 : ∀ a, a < 6 → ∀ b, b < 6 → a ≠ b → (pT_4 a).2.1 ≠ (pT_4 b).2.1 := by decide +kernel
theorem pt_4_ok : ∀ k, k < 6 → parseFieldDescriptor (pT_4 k).2.2.1 = some (pt_4 k) := by decide +kernel
def pT_5 : u_T := fun k => match k with
  | 0 => ("PaidWhereMade$Plans", "town", "LPaidWhereMade$Town;", true)
  | 1 => ("PaidWhereMade$Plans", "open", "[I", true)
  | 2 => ("PaidWhereMade$Plans", "openCount", "I", false)
  | 3 => ("PaidWhereMade$Plans", "clashes", "[I", true)
  | 4 => ("PaidWhereMade$Plans", "fits", "[Z", true)
  | 5 => ("PaidWhereMade$Plans", "least", "[I", true)
  | _ => ("PaidWhereMade$Plans", "grown", "[I", true)
def pt_5 : Nat → FieldType := fun k => match k with
  | 0 => .object "PaidWhereMade$Town"
  | 1 => .array .int
  | 2 => .int
  | 3 => .array .int
  | 4 => .array .boolean
  | 5 => .array .int
  | _ => .array .int
theorem pn_5 : ∀ a, a < 7 → ∀ b, b < 7 → a ≠ b → (pT_5 a).2.1 ≠ (pT_5 b).2.1 := by decide +kernel
theorem pt_5_ok : ∀ k, k < 7 → parseFieldDescriptor (pT_5 k).2.2.1 = some (pt_5 k) := by decide +kernel
def pT_6 : u_T := fun k => match k with
  | 0 => ("PaidWhereMade$Spots", "count", "I", false)
  | 1 => ("PaidWhereMade$Spots", "price", "[I", true)
  | 2 => ("PaidWhereMade$Spots", "miles", "[I", true)
  | _ => ("PaidWhereMade$Spots", "chances", "[I", true)
def pt_6 : Nat → FieldType := fun k => match k with
  | 0 => .int
  | 1 => .array .int
  | 2 => .array .int
  | _ => .array .int
theorem pn_6 : ∀ a, a < 4 → ∀ b, b < 4 → a ≠ b → (pT_6 a).2.1 ≠ (pT_6 b).2.1 := by decide +kernel
theorem pt_6_ok : ∀ k, k < 4 → parseFieldDescriptor (pT_6 k).2.2.1 = some (pt_6 k) := by decide +kernel
def pT_7 : u_T := fun k => match k with
  | 0 => ("PaidWhereMade$Sundays", "town", "LPaidWhereMade$Town;", true)
  | 1 => ("PaidWhereMade$Sundays", "facts", "[I", true)
  | 2 => ("PaidWhereMade$Sundays", "counts", "[Z", true)
  | 3 => ("PaidWhereMade$Sundays", "owes", "[I", true)
  | 4 => ("PaidWhereMade$Sundays", "round", "[I", true)
  | _ => ("PaidWhereMade$Sundays", "roundSize", "I", false)
def pt_7 : Nat → FieldType := fun k => match k with
  | 0 => .object "PaidWhereMade$Town"
  | 1 => .array .int
  | 2 => .array .boolean
  | 3 => .array .int
  | 4 => .array .int
  | _ => .int
theorem pn_7 : ∀ a, a < 6 → ∀ b, b < 6 → a ≠ b → (pT_7 a).2.1 ≠ (pT_7 b).2.1 := by decide +kernel
theorem pt_7_ok : ∀ k, k < 6 → parseFieldDescriptor (pT_7 k).2.2.1 = some (pt_7 k) := by decide +kernel
def pT_8 : u_T := fun k => match k with
  | 0 => ("PaidWhereMade$Tours", "town", "LPaidWhereMade$Town;", true)
  | 1 => ("PaidWhereMade$Tours", "stopCount", "I", false)
  | 2 => ("PaidWhereMade$Tours", "stops", "[I", true)
  | 3 => ("PaidWhereMade$Tours", "legs", "[I", true)
  | 4 => ("PaidWhereMade$Tours", "firstLegs", "[I", true)
  | _ => ("PaidWhereMade$Tours", "fewest", "[I", true)
def pt_8 : Nat → FieldType := fun k => match k with
  | 0 => .object "PaidWhereMade$Town"
  | 1 => .int
  | 2 => .array .int
  | 3 => .array .int
  | 4 => .array .int
  | _ => .array .int
theorem pn_8 : ∀ a, a < 6 → ∀ b, b < 6 → a ≠ b → (pT_8 a).2.1 ≠ (pT_8 b).2.1 := by decide +kernel
theorem pt_8_ok : ∀ k, k < 6 → parseFieldDescriptor (pT_8 k).2.2.1 = some (pt_8 k) := by decide +kernel
def pT_9 : u_T := fun k => match k with
  | 0 => ("PaidWhereMade$Town", "state", "I", false)
  | 1 => ("PaidWhereMade$Town", "sunday", "I", false)
  | 2 => ("PaidWhereMade$Town", "miles", "I", false)
  | 3 => ("PaidWhereMade$Town", "wasFog", "Z", false)
  | 4 => ("PaidWhereMade$Town", "settings", "[I", true)
  | 5 => ("PaidWhereMade$Town", "spots", "LPaidWhereMade$Spots;", true)
  | 6 => ("PaidWhereMade$Town", "people", "LPaidWhereMade$People;", true)
  | 7 => ("PaidWhereMade$Town", "debts", "LPaidWhereMade$Debts;", true)
  | 8 => ("PaidWhereMade$Town", "lines", "LPaidWhereMade$Lines;", true)
  | _ => ("PaidWhereMade$Town", "law", "LPaidWhereMade$Law;", true)
def pt_9 : Nat → FieldType := fun k => match k with
  | 0 => .int
  | 1 => .int
  | 2 => .int
  | 3 => .boolean
  | 4 => .array .int
  | 5 => .object "PaidWhereMade$Spots"
  | 6 => .object "PaidWhereMade$People"
  | 7 => .object "PaidWhereMade$Debts"
  | 8 => .object "PaidWhereMade$Lines"
  | _ => .object "PaidWhereMade$Law"
theorem pn_9 : ∀ a, a < 10 → ∀ b, b < 10 → a ≠ b → (pT_9 a).2.1 ≠ (pT_9 b).2.1 := by decide +kernel
theorem pt_9_ok : ∀ k, k < 10 → parseFieldDescriptor (pT_9 k).2.2.1 = some (pt_9 k) := by decide +kernel
def pT_10 : u_T := fun k => match k with
  | 0 => ("PaidWhereMade$Waits", "spots", "LPaidWhereMade$Spots;", true)
  | 1 => ("PaidWhereMade$Waits", "hours", "I", false)
  | 2 => ("PaidWhereMade$Waits", "chance", "[J", true)
  | _ => ("PaidWhereMade$Waits", "track", "[J", true)
def pt_10 : Nat → FieldType := fun k => match k with
  | 0 => .object "PaidWhereMade$Spots"
  | 1 => .int
  | 2 => .array .long
  | _ => .array .long
theorem pn_10 : ∀ a, a < 4 → ∀ b, b < 4 → a ≠ b → (pT_10 a).2.1 ≠ (pT_10 b).2.1 := by decide +kernel
theorem pt_10_ok : ∀ k, k < 4 → parseFieldDescriptor (pT_10 k).2.2.1 = some (pt_10 k) := by decide +kernel
def pT_11 : u_T := fun k => match k with
  | 0 => ("PaidWhereMade", "town", "LPaidWhereMade$Town;", true)
  | 1 => ("PaidWhereMade", "kept", "LPaidWhereMade$Town;", true)
  | 2 => ("PaidWhereMade", "isKept", "Z", false)
  | 3 => ("PaidWhereMade", "reader", "LPaidWhereMade$LawReader;", true)
  | 4 => ("PaidWhereMade", "sundays", "LPaidWhereMade$Sundays;", true)
  | 5 => ("PaidWhereMade", "plans", "LPaidWhereMade$Plans;", true)
  | 6 => ("PaidWhereMade", "tours", "LPaidWhereMade$Tours;", true)
  | _ => ("PaidWhereMade", "waits", "LPaidWhereMade$Waits;", true)
def pt_11 : Nat → FieldType := fun k => match k with
  | 0 => .object "PaidWhereMade$Town"
  | 1 => .object "PaidWhereMade$Town"
  | 2 => .boolean
  | 3 => .object "PaidWhereMade$LawReader"
  | 4 => .object "PaidWhereMade$Sundays"
  | 5 => .object "PaidWhereMade$Plans"
  | 6 => .object "PaidWhereMade$Tours"
  | _ => .object "PaidWhereMade$Waits"
theorem pn_11 : ∀ a, a < 8 → ∀ b, b < 8 → a ≠ b → (pT_11 a).2.1 ≠ (pT_11 b).2.1 := by decide +kernel
theorem pt_11_ok : ∀ k, k < 8 → parseFieldDescriptor (pT_11 k).2.2.1 = some (pt_11 k) := by decide +kernel
def pT_12 : u_T := fun k => match k with
  | 0 => ("PaidWhereMadeModel", "told", "I", false)
  | 1 => ("PaidWhereMadeModel", "state", "I", false)
  | 2 => ("PaidWhereMadeModel", "spots", "I", false)
  | 3 => ("PaidWhereMadeModel", "priceOf", "[I", true)
  | 4 => ("PaidWhereMadeModel", "wayOf", "[I", true)
  | 5 => ("PaidWhereMadeModel", "people", "I", false)
  | 6 => ("PaidWhereMadeModel", "homeOf", "[I", true)
  | 7 => ("PaidWhereMadeModel", "coinOf", "[I", true)
  | 8 => ("PaidWhereMadeModel", "ageOf", "[I", true)
  | 9 => ("PaidWhereMadeModel", "goalOf", "[I", true)
  | 10 => ("PaidWhereMadeModel", "stoodAt", "[I", true)
  | 11 => ("PaidWhereMadeModel", "debts", "I", false)
  | 12 => ("PaidWhereMadeModel", "debtor", "[I", true)
  | 13 => ("PaidWhereMadeModel", "creditor", "[I", true)
  | 14 => ("PaidWhereMadeModel", "coins", "[I", true)
  | 15 => ("PaidWhereMadeModel", "debtSpot", "[I", true)
  | 16 => ("PaidWhereMadeModel", "madeOn", "[I", true)
  | 17 => ("PaidWhereMadeModel", "paidOn", "[I", true)
  | 18 => ("PaidWhereMadeModel", "how", "[I", true)
  | 19 => ("PaidWhereMadeModel", "sunday", "I", false)
  | 20 => ("PaidWhereMadeModel", "miles", "I", false)
  | 21 => ("PaidWhereMadeModel", "wasFog", "I", false)
  | 22 => ("PaidWhereMadeModel", "settings", "[I", true)
  | 23 => ("PaidWhereMadeModel", "lines", "I", false)
  | 24 => ("PaidWhereMadeModel", "lineSunday", "[I", true)
  | 25 => ("PaidWhereMadeModel", "lineA", "[I", true)
  | 26 => ("PaidWhereMadeModel", "lineB", "[I", true)
  | 27 => ("PaidWhereMadeModel", "lineSpot", "[I", true)
  | 28 => ("PaidWhereMadeModel", "chances", "[I", true)
  | 29 => ("PaidWhereMadeModel", "tape", "[I", true)
  | 30 => ("PaidWhereMadeModel", "taped", "I", false)
  | 31 => ("PaidWhereMadeModel", "spot", "I", false)
  | 32 => ("PaidWhereMadeModel", "from", "I", false)
  | 33 => ("PaidWhereMadeModel", "token", "I", false)
  | 34 => ("PaidWhereMadeModel", "value", "I", false)
  | 35 => ("PaidWhereMadeModel", "words", "[I", true)
  | 36 => ("PaidWhereMadeModel", "lineMany", "I", false)
  | 37 => ("PaidWhereMadeModel", "lineWord", "[I", true)
  | 38 => ("PaidWhereMadeModel", "lineFrom", "[I", true)
  | 39 => ("PaidWhereMadeModel", "lineTo", "[I", true)
  | 40 => ("PaidWhereMadeModel", "op", "[I", true)
  | 41 => ("PaidWhereMadeModel", "arg", "[I", true)
  | 42 => ("PaidWhereMadeModel", "codes", "I", false)
  | 43 => ("PaidWhereMadeModel", "open", "I", false)
  | 44 => ("PaidWhereMadeModel", "pending", "[I", true)
  | 45 => ("PaidWhereMadeModel", "pendings", "I", false)
  | 46 => ("PaidWhereMadeModel", "readFault", "I", false)
  | 47 => ("PaidWhereMadeModel", "readPlace", "I", false)
  | 48 => ("PaidWhereMadeModel", "faultKind", "I", false)
  | 49 => ("PaidWhereMadeModel", "faultPlace", "I", false)
  | 50 => ("PaidWhereMadeModel", "asked", "[I", true)
  | 51 => ("PaidWhereMadeModel", "stack", "[I", true)
  | 52 => ("PaidWhereMadeModel", "row", "[I", true)
  | 53 => ("PaidWhereMadeModel", "paidNow", "I", false)
  | 54 => ("PaidWhereMadeModel", "openDebt", "[I", true)
  | 55 => ("PaidWhereMadeModel", "opens", "I", false)
  | 56 => ("PaidWhereMadeModel", "fewest", "[I", true)
  | 57 => ("PaidWhereMadeModel", "canBe", "[Z", true)
  | 58 => ("PaidWhereMadeModel", "cost", "[I", true)
  | 59 => ("PaidWhereMadeModel", "onward", "[I", true)
  | 60 => ("PaidWhereMadeModel", "missed", "[J", true)
  | 61 => ("PaidWhereMadeModel", "standsNow", "[I", true)
  | 62 => ("PaidWhereMadeModel", "seat", "[I", true)
  | 63 => ("PaidWhereMadeModel", "isTaking", "Z", false)
  | 64 => ("PaidWhereMadeModel", "hasImage", "Z", false)
  | 65 => ("PaidWhereMadeModel", "keptAt", "I", false)
  | _ => ("PaidWhereMadeModel", "images", "[I", true)
def pt_12 : Nat → FieldType := fun k => match k with
  | 0 => .int
  | 1 => .int
  | 2 => .int
  | 3 => .array .int
  | 4 => .array .int
  | 5 => .int
  | 6 => .array .int
  | 7 => .array .int
  | 8 => .array .int
  | 9 => .array .int
  | 10 => .array .int
  | 11 => .int
  | 12 => .array .int
  | 13 => .array .int
  | 14 => .array .int
  | 15 => .array .int
  | 16 => .array .int
  | 17 => .array .int
  | 18 => .array .int
  | 19 => .int
  | 20 => .int
  | 21 => .int
  | 22 => .array .int
  | 23 => .int
  | 24 => .array .int
  | 25 => .array .int
  | 26 => .array .int
  | 27 => .array .int
  | 28 => .array .int
  | 29 => .array .int
  | 30 => .int
  | 31 => .int
  | 32 => .int
  | 33 => .int
  | 34 => .int
  | 35 => .array .int
  | 36 => .int
  | 37 => .array .int
  | 38 => .array .int
  | 39 => .array .int
  | 40 => .array .int
  | 41 => .array .int
  | 42 => .int
  | 43 => .int
  | 44 => .array .int
  | 45 => .int
  | 46 => .int
  | 47 => .int
  | 48 => .int
  | 49 => .int
  | 50 => .array .int
  | 51 => .array .int
  | 52 => .array .int
  | 53 => .int
  | 54 => .array .int
  | 55 => .int
  | 56 => .array .int
  | 57 => .array .boolean
  | 58 => .array .int
  | 59 => .array .int
  | 60 => .array .long
  | 61 => .array .int
  | 62 => .array .int
  | 63 => .boolean
  | 64 => .boolean
  | 65 => .int
  | _ => .array .int
theorem pn_12 : ∀ a, a < 67 → ∀ b, b < 67 → a ≠ b → (pT_12 a).2.1 ≠ (pT_12 b).2.1 := by decide +kernel
theorem pt_12_ok : ∀ k, k < 67 → parseFieldDescriptor (pT_12 k).2.2.1 = some (pt_12 k) := by decide +kernel
abbrev pm_cls : List vw_C := [("PaidWhereMade$Debts", pT_0, 8), ("PaidWhereMade$Law", pT_1, 5), ("PaidWhereMade$LawReader", pT_2, 10), ("PaidWhereMade$Lines", pT_3, 10), ("PaidWhereMade$People", pT_4, 6), ("PaidWhereMade$Plans", pT_5, 7), ("PaidWhereMade$Spots", pT_6, 4), ("PaidWhereMade$Sundays", pT_7, 6), ("PaidWhereMade$Tours", pT_8, 6), ("PaidWhereMade$Town", pT_9, 10), ("PaidWhereMade$Waits", pT_10, 4), ("PaidWhereMade", pT_11, 8), ("PaidWhereMadeModel", pT_12, 67)]
/-- the names of all classes that have code, by number -/
def pm_cn : List String := ["PaidWhereMade$Debts", "PaidWhereMade$Law", "PaidWhereMade$LawReader", "PaidWhereMade$Lines", "PaidWhereMade$People", "PaidWhereMade$Plans", "PaidWhereMade$Spots", "PaidWhereMade$Sundays", "PaidWhereMade$Tours", "PaidWhereMade$Town", "PaidWhereMade$Waits", "PaidWhereMade", "PaidWhereMadeModel", "java/lang/Integer", "java/util/Arrays", "java/lang/String", "java/lang/StringLatin1", "jdk/internal/util/Preconditions", "PaidWhereMadeLaw"]
def pm_layw : List Cond := pm_cls.flatMap (fun q => u_ws q.1 q.2.1 q.2.2)
def pm_layh : List Nat := [256, 258, 260, 262, 264, 266, 268, 270, 324, 326, 328, 330, 332, 408, 410, 412, 414, 416, 418, 420, 422, 424, 426, 290, 292, 294, 296, 298, 300, 302, 304, 306, 308, 211, 213, 215, 217, 219, 221, 468, 470, 472, 474, 476, 478, 480, 177, 179, 181, 183, 441, 443, 445, 447, 449, 451, 495, 497, 499, 501, 503, 505, 367, 369, 371, 373, 375, 377, 379, 381, 383, 385, 518, 520, 522, 524, 536, 538, 540, 542, 544, 546, 548, 550, 1308, 1310, 1312, 1314, 1316, 1318, 1320, 1322, 1324, 1326, 1328, 1330, 1332, 1334, 1336, 1338, 1340, 1342, 1344, 1346, 1348, 1350, 1352, 1354, 1356, 1358, 1360, 1362, 1364, 1366, 1368, 1370, 1372, 1374, 1376, 1378, 1380, 1382, 1384, 1386, 1388, 1390, 1392, 1394, 1396, 1398, 1400, 1402, 1404, 1406, 1408, 1410, 1412, 1414, 1416, 1418, 1420, 1422, 1424, 1426, 1428, 1430, 1432, 1434, 1436, 1438, 1440]
set_option maxRecDepth 100000 in
theorem pm_lay_ok : pm_layw.map some = pm_layh.map (fun i => lw_tbl[i]?) := by decide +kernel
