/-! one more small lemma that part 64p has too -/
theorem sgI {x l h : Int} (h1 : l ≤ x) (h2 : x ≤ h) (l1 : -2147483648 ≤ l) (h3 : h ≤ 2147483647) : an_sarg (.int (Int32.ofInt x)) (1, 0, l, h) := ⟨_, rfl, by rw [ti_of (by omega) (by omega)]; exact h1, by rw [ti_of (by omega) (by omega)]; exact h2⟩
