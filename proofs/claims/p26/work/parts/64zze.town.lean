/-! the whole town: one relation of the class's rows and the model's state -/
/-- the model's cells out of its image's places -/
def mU (u : Nat → Int32) (P j : Nat) : Int32 := match P with
  | 93 => (match j with
    | 1 => u 0
    | 2 => u 1
    | 5 => u 192
    | 11 => u 250
    | 19 => u 243
    | 20 => u 244
    | 21 => u 245
    | 36 => u 582
    | 23 => u 461
    | _ => 0)
  | 94 => u (2 + j)
  | 95 => u (12 + j)
  | 96 => u (193 + 5 * j)
  | 97 => u (194 + 5 * j)
  | 98 => u (195 + 5 * j)
  | 99 => u (196 + 5 * j)
  | 100 => u (197 + 5 * j)
  | 101 => u (251 + 7 * j)
  | 102 => u (252 + 7 * j)
  | 103 => u (253 + 7 * j)
  | 104 => u (254 + 7 * j)
  | 105 => u (255 + 7 * j)
  | 106 => u (256 + 7 * j)
  | 107 => u (257 + 7 * j)
  | 108 => u (246 + j)
  | 116 => u (583 + 3 * j)
  | 117 => u (584 + 3 * j)
  | 118 => u (585 + 3 * j)
  | 119 => u (631 + 2 * j)
  | 120 => u (632 + 2 * j)
  | _ => 0
/-- the model's rows that the town is in, and how many cells of each -/
abbrev mRw : List (Nat × Nat) := [(94, 10), (95, 100), (96, 10), (97, 10), (98, 10), (99, 10), (100, 10), (101, 30), (102, 30), (103, 30), (104, 30), (105, 30), (106, 30), (107, 30), (108, 4), (116, 16), (117, 16), (118, 16), (119, 400), (120, 400)]
abbrev mCe : List Nat := [1, 2, 5, 11, 19, 20, 21, 36, 23]
/-- which place of the image a cell of the model is -/
def mIx (P j : Nat) : Nat := match P with
  | 93 => (match j with
    | 1 => 0
    | 2 => 1
    | 5 => 192
    | 11 => 250
    | 19 => 243
    | 20 => 244
    | 21 => 245
    | 23 => 461
    | _ => 582)
  | 94 => 2 + j
  | 95 => 12 + j
  | 96 => 193 + 5 * j
  | 97 => 194 + 5 * j
  | 98 => 195 + 5 * j
  | 99 => 196 + 5 * j
  | 100 => 197 + 5 * j
  | 101 => 251 + 7 * j
  | 102 => 252 + 7 * j
  | 103 => 253 + 7 * j
  | 104 => 254 + 7 * j
  | 105 => 255 + 7 * j
  | 106 => 256 + 7 * j
  | 107 => 257 + 7 * j
  | 108 => 246 + j
  | 116 => 583 + 3 * j
  | 117 => 584 + 3 * j
  | 118 => 585 + 3 * j
  | 119 => 631 + 2 * j
  | _ => 632 + 2 * j
abbrev D5 : List Nat := mCe.map (mIx 93) ++ mRw.flatMap (fun r => (List.range r.2).map (mIx r.1))
theorem mIx_c : mCe.all (fun j => Nat.beq (qsI (mIx 93 j)).1 93 && Nat.beq (qsI (mIx 93 j)).2 j) = true := by decide +kernel
theorem mIx_r : mRw.all (fun r => (List.range r.2).all (fun j => Nat.beq (qsI (mIx r.1 j)).1 r.1 && Nat.beq (qsI (mIx r.1 j)).2 j)) = true := by decide +kernel
/-- a cell of the model's town -/
def isM (P j : Nat) : Prop := (P = 93 ∧ j ∈ mCe) ∨ ∃ n, (P, n) ∈ mRw ∧ j < n
theorem mU_i {u : Nat → Int32} {P j : Nat} (h : isM P j) : mU u P j = u (mIx P j) := by
  rcases h with ⟨rfl, h⟩ | ⟨n, h, hj⟩
  · simp only [List.mem_cons, List.not_mem_nil, or_false] at h
    rcases h with rfl | rfl | rfl | rfl | rfl | rfl | rfl | rfl | rfl <;> rfl
  · simp only [List.mem_cons, List.not_mem_nil, or_false, Prod.mk.injEq] at h
    rcases h with ⟨rfl, _⟩ | ⟨rfl, _⟩ | ⟨rfl, _⟩ | ⟨rfl, _⟩ | ⟨rfl, _⟩ | ⟨rfl, _⟩ | ⟨rfl, _⟩ | ⟨rfl, _⟩ | ⟨rfl, _⟩ | ⟨rfl, _⟩ | ⟨rfl, _⟩ | ⟨rfl, _⟩ | ⟨rfl, _⟩ | ⟨rfl, _⟩ | ⟨rfl, _⟩ | ⟨rfl, _⟩ | ⟨rfl, _⟩ | ⟨rfl, _⟩ | ⟨rfl, _⟩ | ⟨rfl, _⟩ <;> rfl
theorem mIx_m {P j : Nat} (h : isM P j) : mIx P j ∈ D5 := by
  rcases h with ⟨rfl, h⟩ | ⟨n, h, hj⟩
  · exact List.mem_append_left _ (List.mem_map.mpr ⟨j, h, rfl⟩)
  · exact List.mem_append_right _ (List.mem_flatMap.mpr ⟨(P, n), h, List.mem_map.mpr ⟨j, List.mem_range.mpr hj, rfl⟩⟩)
/-- of the state: the cell itself -/
theorem mU_s {σ : pm_S} {P j : Nat} (h : isM P j) : mU (uS σ) P j = σ.1 P j := by
  rw [mU_i h]
  show σ.1 (qsI (mIx P j)).1 (qsI (mIx P j)).2 = _
  rcases h with ⟨rfl, h⟩ | ⟨n, h, hj⟩
  · have z := List.all_eq_true.mp mIx_c j h
    rw [Bool.and_eq_true] at z
    rw [Nat.eq_of_beq_eq_true z.1, Nat.eq_of_beq_eq_true z.2]
  · have z := List.all_eq_true.mp (List.all_eq_true.mp mIx_r (P, n) h) j (List.mem_range.mpr hj)
    rw [Bool.and_eq_true] at z
    rw [Nat.eq_of_beq_eq_true z.1, Nat.eq_of_beq_eq_true z.2]
theorem mU_e {u u' : Nat → Int32} (h : ∀ i ∈ D5, u' i = u i) {P j : Nat} (hm : isM P j) : mU u' P j = mU u P j := by
  rw [mU_i hm, mU_i hm]
  exact h _ (mIx_m hm)
/-- RX looks at these cells alone -/
theorem RX.cg {D N S : Nat} {t t' u u' : Nat → Nat → Int32} (h : RX D N S t u) (ht : ∀ P n, (P, n) ∈ [(1, 4), (2, 4), (4, 10), (5, 100), (8, 10), (9, 10), (10, 10), (11, 10), (12, 10), (14, 30), (15, 30), (16, 30), (17, 30), (18, 30), (19, 30), (20, 30)] → ∀ j, j < n → t' P j = t P j) (hu : ∀ P j, isM P j → u' P j = u P j) : RX D N S t' u' := by
  obtain ⟨hb, ⟨h1, h2, h3, h4, h5⟩, hS, hp, hd, hl⟩ := h
  have T1 : ∀ j, j < 4 → t' 1 j = t 1 j := ht 1 4 (by decide)
  have U : ∀ j, j ∈ mCe → u' 93 j = u 93 j := fun j hj => hu 93 j (Or.inl ⟨rfl, hj⟩)
  have V : ∀ P n, (P, n) ∈ mRw → ∀ j, j < n → u' P j = u P j := fun P n h j hj => hu P j (Or.inr ⟨n, h, hj⟩)
  have ab : ∀ {a b : Nat}, a < S → b < S → a * 10 + b < 100 := fun {a b} ha hb' => by have := hb.2.2; omega
  refine ⟨hb, ⟨?_, ?_, ?_, ?_, fun j hj => ?_⟩, ⟨fun a ha => ?_, fun a b ha hb' hab => ?_⟩, fun p hp' => ?_, fun d hd' => ?_, fun p hp' => ?_, fun d hd' => ?_⟩
  · rw [T1 0 (by decide), U 1 (by decide)]
    exact h1
  · rw [T1 1 (by decide), U 19 (by decide)]
    exact h2
  · rw [T1 2 (by decide), U 20 (by decide)]
    exact h3
  · rw [T1 3 (by decide), U 21 (by decide)]
    exact h4
  · rw [ht 2 4 (by decide) j hj, V 108 4 (by decide) j hj]
    exact h5 j hj
  · rw [ht 4 10 (by decide) a (by omega), V 94 10 (by decide) a (by omega)]
    exact hS.1 a ha
  · rw [ht 5 100 (by decide) _ (ab ha hb'), V 95 100 (by decide) _ (ab ha hb')]
    exact hS.2 a b ha hb' hab
  · have q : p < 10 := by omega
    rw [ht 8 10 (by decide) p q, ht 9 10 (by decide) p q, ht 10 10 (by decide) p q, ht 11 10 (by decide) p q, ht 12 10 (by decide) p q, V 96 10 (by decide) p q, V 97 10 (by decide) p q, V 98 10 (by decide) p q, V 99 10 (by decide) p q, V 100 10 (by decide) p q]
    exact hp p hp'
  · have q : d < 30 := by omega
    rw [ht 14 30 (by decide) d q, ht 15 30 (by decide) d q, ht 16 30 (by decide) d q, ht 17 30 (by decide) d q, ht 18 30 (by decide) d q, ht 19 30 (by decide) d q, ht 20 30 (by decide) d q, V 101 30 (by decide) d q, V 102 30 (by decide) d q, V 103 30 (by decide) d q, V 104 30 (by decide) d q, V 105 30 (by decide) d q, V 106 30 (by decide) d q, V 107 30 (by decide) d q]
    exact hd d hd'
  · have q : p < 10 := by omega
    rw [ht 8 10 (by decide) p q, ht 11 10 (by decide) p q]
    exact hl.1 p hp'
  · have q : d < 30 := by omega
    have e14 : nt (t' 14) d = nt (t 14) d := congrArg (fun w : Int32 => w.toInt.toNat) (ht 14 30 (by decide) d q)
    have e15 : nt (t' 15) d = nt (t 15) d := congrArg (fun w : Int32 => w.toInt.toNat) (ht 15 30 (by decide) d q)
    rw [e14, e15, ht 17 30 (by decide) d q]
    exact hl.2 d hd'
