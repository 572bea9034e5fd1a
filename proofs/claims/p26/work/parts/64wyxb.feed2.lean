/-! feed, exactly: b -/
set_option maxRecDepth 20000 in
theorem x_adm {σ : pm_S} (v : Int) (hv : (-2147483648) ≤ v ∧ v ≤ 2147483647) (x : Nat) (hx : x ≤ 396) (hB : an_GB pm_B σ) (e : sI σ 93 30 = (x : Int)) : Sp 174 4 [.ref 93, .int (Int32.ofInt v)] σ (fun r τ => r = none ∧ an_GB pm_B τ ∧ FQ [(93, 30), (114, 9999)] σ τ ∧ sI τ 93 30 = ((x + 4 : Nat) : Int) ∧ τ.1 114 = tw4 (σ.1 114) x (Int32.ofInt v)) := by
  refine Sp.at rfl rfl ?_
  refine qv_b0 v x _ rfl hB ⟨hv, by omega, trivial⟩ ⟨e, trivial⟩ ?_
  intro τ1 y1 hB1 F1 f1 _ d1 c1
  have fy1 : 0 ≤ y1 3 ∧ y1 3 ≤ 255 := f1.2.2.2.1
  refine Ok.ast (n := 400) rfl rfl rfl (by decide) (by omega) (by omega) ?_
  have v1 : Int32.ofInt (y1 3) = bB (Int32.ofInt v) 24 := by
    rw [← d1.2.1, oI, ← d1.1, oI]
    exact (by_eq (Int32.ofInt v) 24 (by decide)).symm
  have n1 : ((x : Int)).toNat = x := by omega
  have r1 : (bB (Int32.ofInt v) 24).toInt ≤ 255 ∧ 0 ≤ (bB (Int32.ofInt v) 24).toInt := by
    rw [← v1, ti_of (by omega) (by omega)]
    omega
  rw [v1, n1]
  have hB2 : an_GB pm_B (put τ1 114 x (bB (Int32.ofInt v) 24)) := put_GB hB1 ⟨r1.2, r1.1⟩
  refine qv_b1 v ((x : Int)) hB2 ⟨hv, by omega, trivial⟩ ⟨by rw [put_nr (by decide)]; exact c1.1, trivial⟩ ?_
  intro τ3 y3 hB3 F3 f3 _ d3 c3
  have fy3 : 0 ≤ y3 3 ∧ y3 3 ≤ 255 := f3.2.2.2.1
  refine Ok.ast (n := 400) rfl rfl rfl (by decide) (by omega) (by omega) ?_
  have v3 : Int32.ofInt (y3 3) = bB (Int32.ofInt v) 16 := by
    rw [← d3.2.1, oI, ← d3.1, oI]
    exact (by_eq (Int32.ofInt v) 16 (by decide)).symm
  have n3 : ((x : Int) + 1).toNat = x + 1 := by omega
  have r3 : (bB (Int32.ofInt v) 16).toInt ≤ 255 ∧ 0 ≤ (bB (Int32.ofInt v) 16).toInt := by
    rw [← v3, ti_of (by omega) (by omega)]
    omega
  rw [v3, n3]
  have hB4 : an_GB pm_B (put τ3 114 (x + 1) (bB (Int32.ofInt v) 16)) := put_GB hB3 ⟨r3.2, r3.1⟩
  refine qv_b2 v ((x : Int) + 1) hB4 ⟨hv, by omega, trivial⟩ ⟨by rw [put_nr (by decide)]; exact c3.1, trivial⟩ ?_
  intro τ5 y5 hB5 F5 f5 _ d5 c5
  have fy5 : 0 ≤ y5 3 ∧ y5 3 ≤ 255 := f5.2.2.2.1
  refine Ok.ast (n := 400) rfl rfl rfl (by decide) (by omega) (by omega) ?_
  have v5 : Int32.ofInt (y5 3) = bB (Int32.ofInt v) 8 := by
    rw [← d5.2.1, oI, ← d5.1, oI]
    exact (by_eq (Int32.ofInt v) 8 (by decide)).symm
  have n5 : ((x : Int) + 1 + 1).toNat = x + 2 := by omega
  have r5 : (bB (Int32.ofInt v) 8).toInt ≤ 255 ∧ 0 ≤ (bB (Int32.ofInt v) 8).toInt := by
    rw [← v5, ti_of (by omega) (by omega)]
    omega
  rw [v5, n5]
  have hB6 : an_GB pm_B (put τ5 114 (x + 2) (bB (Int32.ofInt v) 8)) := put_GB hB5 ⟨r5.2, r5.1⟩
  refine qv_b3 v ((x : Int) + 1 + 1) hB6 ⟨hv, by omega, trivial⟩ ⟨by rw [put_nr (by decide)]; exact c5.1, trivial⟩ ?_
  intro τ7 y7 hB7 F7 f7 _ d7 c7
  have fy7 : 0 ≤ y7 3 ∧ y7 3 ≤ 255 := f7.2.2.2.1
  refine Ok.ast (n := 400) rfl rfl rfl (by decide) (by omega) (by omega) ?_
  have v7 : Int32.ofInt (y7 3) = bB (Int32.ofInt v) 0 := by
    rw [← d7.2.1, oI, ← d7.1, oI]
    exact (by_eq (Int32.ofInt v) 0 (by decide)).symm
  have n7 : ((x : Int) + 1 + 1 + 1).toNat = x + 3 := by omega
  have r7 : (bB (Int32.ofInt v) 0).toInt ≤ 255 ∧ 0 ≤ (bB (Int32.ofInt v) 0).toInt := by
    rw [← v7, ti_of (by omega) (by omega)]
    omega
  rw [v7, n7]
  have hB8 : an_GB pm_B (put τ7 114 (x + 3) (bB (Int32.ofInt v) 0)) := put_GB hB7 ⟨r7.2, r7.1⟩
  refine qv_b4 v ((x : Int) + 1 + 1 + 1) hB8 ⟨hv, by omega, trivial⟩ ⟨by rw [put_nr (by decide)]; exact c7.1, trivial⟩ ?_
  intro τ9 y9 hB9 F9 _ _ _ c9
  refine ⟨rfl, hB9, FQ.tr (FQ.up (G := []) rfl F1) (FQ.tr (FQ.put rfl) (FQ.tr (FQ.up (G := [(93, 30)]) rfl F3) (FQ.tr (FQ.put rfl) (FQ.tr (FQ.up (G := [(93, 30)]) rfl F5) (FQ.tr (FQ.put rfl) (FQ.tr (FQ.up (G := [(93, 30)]) rfl F7) (FQ.tr (FQ.put rfl) (FQ.up (G := [(93, 30)]) rfl F9)))))))), ?_, ?_⟩
  · have e9 : sI τ9 93 30 = (x : Int) + 1 + 1 + 1 + 1 := c9.1
    rw [e9]
    omega
  · funext j
    rw [F9 114 j rfl, put_get, F7 114 j rfl, put_get, F5 114 j rfl, put_get, F3 114 j rfl, put_get, F1 114 j rfl]
    unfold tw4
    repeat' split
    all_goals first | rfl | (exfalso; omega)
