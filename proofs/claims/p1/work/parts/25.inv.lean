/-! THE INVARIANT: the class's town and the model's rows say the same -/
def Rsc (sun : Nat) (a b c d a' b' c' d' : Int32) : Prop := a = a' ∧ b = nI sun ∧ b' = nI sun ∧ sun ≤ 9999 ∧ c = c' ∧ d = d' ∧ (d = 0 ∨ d = 1)
def Rset (s s' : Nat → Int32) : Prop := (∀ j, j < 4 → s j = s' j) ∧ (∃ v : Nat, v ≤ 100 ∧ s 0 = nI v) ∧ (∃ v : Nat, v ≤ 99 ∧ s 1 = nI v) ∧ (∃ v : Nat, v ≤ 1 ∧ s 2 = nI v) ∧ (∃ v : Nat, 1 ≤ v ∧ v ≤ 52 ∧ s 3 = nI v)
def Rspots (n : Nat) (c c' : Int32) (price price' miles way ch ch' : Nat → Int32) : Prop := c = nI n ∧ c' = nI n ∧ n ≤ 10 ∧ (∀ j, j < n → price j = price' j ∧ ∃ v : Nat, v ≤ 99 ∧ price j = nI v) ∧ (∀ a, a < 10 → ∀ b, b < 10 → ∃ v : Nat, v ≤ 99 ∧ (a = b → v = 0) ∧ miles (a * 10 + b) = nI v ∧ miles (b * 10 + a) = nI v ∧ (a ≠ b → way (a * 10 + b) = nI v - nI 9)) ∧ (∀ j, j < 80 → ch j = ch' j ∧ ∃ v : Nat, v ≤ 100 ∧ ch j = nI v)
def Rpeople (ns n : Nat) (c c' : Int32) (home coin age goal stood home' coin' age' goal' stood' : Nat → Int32) : Prop := c = nI n ∧ c' = nI n ∧ n ≤ 10 ∧ (∀ j, j < n → home j = home' j ∧ coin j = coin' j ∧ age j = age' j ∧ goal j = goal' j ∧ stood j = stood' j - nI 1 ∧ (∃ v : Nat, v < ns ∧ home j = nI v) ∧ (∃ v : Nat, v < ns ∧ goal j = nI v) ∧ (∃ v : Nat, v ≤ ns ∧ stood' j = nI v)) ∧ (∀ j, j < 10 → n ≤ j → stood' j = 0)
def Rdebts (ns np sun n : Nat) (c c' : Int32) (dr cr co pl ma pa ho dr' cr' co' pl' ma' pa' ho' : Nat → Int32) : Prop := c = nI n ∧ c' = nI n ∧ n ≤ 30 ∧ (∀ j, j < n → dr j = dr' j ∧ cr j = cr' j ∧ co j = co' j ∧ pl j = pl' j ∧ ma j = ma' j ∧ pa j = pa' j ∧ ho j = ho' j ∧ (∃ v : Nat, v < np ∧ dr j = nI v) ∧ (∃ v : Nat, v < np ∧ cr j = nI v) ∧ dr j ≠ cr j ∧ (∃ v : Nat, v ≤ 99999 ∧ co j = nI v) ∧ (∃ v : Nat, v < ns ∧ pl j = nI v) ∧ (∃ v : Nat, v ≤ sun ∧ ma j = nI v) ∧ (∃ v : Nat, v ≤ 2 ∧ ho j = nI v))
def Rlines (ns np n : Nat) (c c' : Int32) (da wh ot pl da' wh' ot' pl' : Nat → Int32) : Prop := c = nI n ∧ c' = nI n ∧ n ≤ 30 ∧ (∀ j, j < n → da j = da' j ∧ wh j = wh' j ∧ ot j = ot' j ∧ pl j = pl' j ∧ (∃ v : Nat, v < np ∧ wh j = nI v) ∧ ((ot j = -1 ∧ ∃ v : Nat, v < ns ∧ pl j = nI v) ∨ (pl j = -1 ∧ (∃ v : Nat, v < np ∧ ot j = nI v) ∧ wh j ≠ ot j)))
/-- a model's step as a word of the class's law -/
def Rw (op arg : Int32) : Int32 := if op = 0 then arg else if op = 1 then -7 - arg else if op = 2 then -17 else if op = 3 then -18 else if op = 4 then -19 else if op = 5 then -20 else if op = 6 then -23 else if op = 7 then -24 else if op = 8 then -25 else if op = 9 then -6 else if op = 10 then -5 else -4
/-- a row of steps by the kinds of what waits: 0 a number, 1 a truth, 2 a number that is not 0; at most 40 wait -/
def tyS (op arg : Int32) (e : List Nat) : Option (List Nat) :=
  if op = 0 then (if 0 ≤ arg ∧ e.length < 40 then some ((if arg = 0 then 0 else 2) :: e) else none)
  else if op = 1 then (if 0 ≤ arg ∧ arg ≤ 8 ∧ e.length < 40 then some (0 :: e) else none)
  else match e with
    | [] => none
    | a :: e1 => if op = 9 then (if a = 1 then some (1 :: e1) else none) else match e1 with
      | [] => none
      | b :: e2 => if op = 10 ∨ op = 11 then (if a = 1 ∧ b = 1 then some (1 :: e2) else none)
        else if op = 5 then (if a = 2 ∧ b ≠ 1 then some (0 :: e2) else none)
        else if op = 2 ∨ op = 3 ∨ op = 4 then (if a ≠ 1 ∧ b ≠ 1 then some (0 :: e2) else none)
        else if op = 6 ∨ op = 7 ∨ op = 8 then (if a ≠ 1 ∧ b ≠ 1 then some (1 :: e2) else none) else none
def Rrun (op arg : Nat → Int32) (k : Nat) : Nat → Option (List Nat)
  | 0 => some []
  | n + 1 => (Rrun op arg k n).bind (tyS (op (k + n)) (arg (k + n)))
/-- line l's words begin at place (ps l) and end with its verdict -/
def Rlaw (n : Nat) (c sz c' : Int32) (ws lw lf lt op arg : Nat → Int32) : Prop := c = nI n ∧ c' = nI n ∧ n ≤ 16 ∧ ∃ ps fr to : Nat → Nat, ps 0 = 0 ∧ sz = nI (ps n) ∧ ps n ≤ 400 ∧ ∀ l, l < n → lf l = nI (fr l) ∧ lt l = nI (to l) ∧ fr l ≤ to l ∧ to l ≤ 400 ∧ (lw l = 0 ∨ lw l = 1) ∧ (if fr l = to l then ps (l + 1) = ps l + 2 ∧ ws (ps l) = 1 else ps (l + 1) = ps l + (to l - fr l) + 1 ∧ (∀ j, j < to l - fr l → ws (ps l + j) = Rw (op (fr l + j)) (arg (fr l + j))) ∧ Rrun op arg (fr l) (to l - fr l) = some [1]) ∧ ws (ps (l + 1) - 1) = -1 - lw l
/-- a town of the class (rows T 1 .. T 33) and rows of the model (93 ..) -/
def RT (ns np nd nl nw sun : Nat) (T μ : Nat → Nat → Int32) : Prop :=
  Rsc sun (T 1 0) (T 1 1) (T 1 2) (T 1 3) (μ 93 1) (μ 93 19) (μ 93 20) (μ 93 21) ∧ Rset (T 2) (μ 108) ∧ Rspots ns (T 3 0) (μ 93 2) (T 4) (μ 94) (T 5) (μ 95) (T 6) (μ 113) ∧
  Rpeople ns np (T 7 0) (μ 93 5) (T 8) (T 9) (T 10) (T 11) (T 12) (μ 96) (μ 97) (μ 98) (μ 99) (μ 100) ∧
  Rdebts ns np sun nd (T 13 0) (μ 93 11) (T 14) (T 15) (T 16) (T 17) (T 18) (T 19) (T 20) (μ 101) (μ 102) (μ 103) (μ 104) (μ 105) (μ 106) (μ 107) ∧
  Rlines ns np nl (T 21 0) (μ 93 23) (T 22) (T 23) (T 24) (T 25) (μ 109) (μ 110) (μ 111) (μ 112) ∧
  Rlaw nw (T 31 0) (T 31 1) (μ 93 36) (T 32) (μ 116) (μ 117) (μ 118) (μ 119) (μ 120)
/-- the tape and the fault -/
def Rrd (t : Nat) (fl fp len fl' fp' len' : Int32) (ta ta' wd : Nat → Int32) : Prop := fl = fl' ∧ fp = fp' ∧ len = nI t ∧ len' = nI t ∧ t ≤ 400 ∧ (∀ j, j < t → ta j = ta' j ∧ ∃ v : Nat, v < 256 ∧ ta j = nI v) ∧ (∀ j, j < 80 → wd j = nI ((" pay bar when or and not coins age purse spot years here debtor creditor sunday ".toList.map Char.toNat).getD j 0))
/-- the model's image as rows of the model -/
def Rdec (im : Nat → Int32) : Nat → Nat → Int32 := fun p j => match p with
  | 93 => match j with
    | 1 => im 0
    | 2 => im 1
    | 5 => im 192
    | 19 => im 243
    | 20 => im 244
    | 21 => im 245
    | 11 => im 250
    | 23 => im 461
    | 36 => im 582
    | _ => 0
  | 94 => im (2 + j)
  | 95 => im (12 + j)
  | 113 => im (112 + j)
  | 96 => im (193 + 5 * j)
  | 97 => im (194 + 5 * j)
  | 98 => im (195 + 5 * j)
  | 99 => im (196 + 5 * j)
  | 100 => im (197 + 5 * j)
  | 108 => im (246 + j)
  | 101 => im (251 + 7 * j)
  | 102 => im (252 + 7 * j)
  | 103 => im (253 + 7 * j)
  | 104 => im (254 + 7 * j)
  | 105 => im (255 + 7 * j)
  | 106 => im (256 + 7 * j)
  | 107 => im (257 + 7 * j)
  | 109 => im (462 + 4 * j)
  | 110 => im (463 + 4 * j)
  | 111 => im (464 + 4 * j)
  | 112 => im (465 + 4 * j)
  | 116 => im (583 + 3 * j)
  | 117 => im (584 + 3 * j)
  | 118 => im (585 + 3 * j)
  | 119 => im (631 + 2 * j)
  | 120 => im (632 + 2 * j)
  | _ => 0
def Rim (is is' : Int32) (K im : Nat → Nat → Int32) : Prop := is = is' ∧ (is = 0 ∨ (is = 1 ∧ ∃ ns np nd nl nw sun, RT ns np nd nl nw sun K im))
def Inv (σ : pm_S) : Prop :=
  (∃ ns np nd nl nw sun, RT ns np nd nl nw sun σ.1 σ.1) ∧ (∃ t, Rrd t (σ.1 67 0) (σ.1 67 1) (σ.1 67 2) (σ.1 93 48) (σ.1 93 49) (σ.1 93 30) (σ.1 68) (σ.1 114) (σ.1 115)) ∧ Rim (σ.1 0 2) (σ.1 93 64) (fun c => σ.1 (c + 33)) (Rdec (σ.1 133))
/-! at the beginning -/
theorem ini_a : (pm_s0.1 1 0 = 0 ∧ pm_s0.1 1 1 = 0 ∧ pm_s0.1 1 2 = 0 ∧ pm_s0.1 1 3 = 0 ∧ pm_s0.1 93 1 = 0 ∧ pm_s0.1 93 19 = 0 ∧ pm_s0.1 93 20 = 0 ∧ pm_s0.1 93 21 = 0) ∧ (∀ j, j < 4 → pm_s0.1 2 j = pm_s0.1 108 j) ∧ (pm_s0.1 2 0 = 0 ∧ pm_s0.1 2 1 = 0 ∧ pm_s0.1 2 2 = 0 ∧ pm_s0.1 2 3 = 4) ∧ (pm_s0.1 3 0 = 0 ∧ pm_s0.1 93 2 = 0) ∧ (∀ a, a < 10 → ∀ b, b < 10 → pm_s0.1 5 (a * 10 + b) = (if a = b then 0 else nI 9) ∧ pm_s0.1 95 (a * 10 + b) = 0) ∧ (∀ j, j < 80 → pm_s0.1 6 j = 0 ∧ pm_s0.1 113 j = 0) ∧ (pm_s0.1 7 0 = 0 ∧ pm_s0.1 93 5 = 0) ∧ (∀ j, j < 10 → pm_s0.1 100 j = 0) ∧ (pm_s0.1 13 0 = 0 ∧ pm_s0.1 93 11 = 0 ∧ pm_s0.1 21 0 = 0 ∧ pm_s0.1 93 23 = 0 ∧ pm_s0.1 31 0 = 0 ∧ pm_s0.1 31 1 = 0 ∧ pm_s0.1 93 36 = 0) ∧ (pm_s0.1 67 0 = 0 ∧ pm_s0.1 93 48 = 0 ∧ pm_s0.1 67 1 = -1 ∧ pm_s0.1 93 49 = -1 ∧ pm_s0.1 67 2 = 0 ∧ pm_s0.1 93 30 = 0 ∧ pm_s0.1 0 2 = 0 ∧ pm_s0.1 93 64 = 0) ∧ (∀ j, j < 80 → pm_s0.1 115 j = nI ((" pay bar when or and not coins age purse spot years here debtor creditor sunday ".toList.map Char.toNat).getD j 0)) := by decide +kernel
theorem inv_0 : Inv pm_s0 := by
  obtain ⟨⟨a1, a2, a3, a4, a5, a6, a7, a8⟩, b1, ⟨b2, b3, b4, b5⟩, ⟨c1, c2⟩, c3, c4, ⟨d1, d2⟩, d3, ⟨e1, e2, e3, e4, e5, e6, e7⟩, ⟨f1, f2, f3, f4, f5, f6, f7, f8⟩, f9⟩ := ini_a
  refine ⟨⟨0, 0, 0, 0, 0, 0, ?_, ?_, ?_, ?_, ?_, ?_, ?_⟩, ⟨0, ?_⟩, ?_⟩
  · exact ⟨by rw [a1, a5], a2, a6, by omega, by rw [a3, a7], by rw [a4, a8], Or.inl a4⟩
  · exact ⟨b1, ⟨0, by omega, b2⟩, ⟨0, by omega, b3⟩, ⟨0, by omega, b4⟩, ⟨4, by omega, by omega, b5⟩⟩
  · refine ⟨c1, c2, by omega, fun j h => absurd h (by omega), fun a ha b hb => ?_, fun j hj => ⟨by rw [(c4 j hj).1, (c4 j hj).2], 0, by omega, (c4 j hj).1⟩⟩
    obtain ⟨g1, g2⟩ := c3 a ha b hb
    obtain ⟨g3, -⟩ := c3 b hb a ha
    by_cases hab : a = b
    · refine ⟨0, by omega, fun _ => rfl, by rw [g1, if_pos hab]; rfl, by rw [g3, if_pos hab.symm]; rfl, fun h => absurd hab h⟩
    · refine ⟨9, by omega, fun h => absurd h hab, by rw [g1, if_neg hab], by rw [g3, if_neg (fun h => hab h.symm)], fun _ => by rw [g2]; decide⟩
  · exact ⟨d1, d2, by omega, fun j h => absurd h (by omega), fun j hj _ => d3 j hj⟩
  · exact ⟨e1, e2, by omega, fun j h => absurd h (by omega)⟩
  · exact ⟨e3, e4, by omega, fun j h => absurd h (by omega)⟩
  · exact ⟨e5, e7, by omega, fun _ => 0, fun _ => 0, fun _ => 0, rfl, e6, Nat.zero_le _, fun l h => absurd h (by omega)⟩
  · exact ⟨by rw [f1, f2], by rw [f3, f4], f5, f6, by omega, fun j h => absurd h (by omega), f9⟩
  · exact ⟨by rw [f7, f8], Or.inl f7⟩
