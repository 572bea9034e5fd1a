/-! a summary out of two, by the range of an argument -/
theorem an_sargs_set {lo hi : Int} : ∀ {vs : List Value} {qs : List an_P} (i : Nat), an_sargs vs qs → pm_nth qs i = some (1, 0, lo, hi) → ∃ w : Int32, lo ≤ w.toInt ∧ w.toInt ≤ hi ∧ ∀ l h : Int, l ≤ w.toInt → w.toInt ≤ h → an_sargs vs (qs.set i (1, 0, l, h))
  | [], [], i, _, hq => by cases i <;> cases hq
  | [], _ :: _, i, hv, _ => hv.elim
  | _ :: _, [], i, hv, _ => hv.elim
  | v :: vs, q :: qs, 0, hv, hq => by
    cases hq
    obtain ⟨w, e, b1, b2⟩ := hv.1
    exact ⟨w, b1, b2, fun l h h1 h2 => ⟨⟨w, e, h1, h2⟩, hv.2⟩⟩
  | v :: vs, q :: qs, i + 1, hv, hq => by
    obtain ⟨w, b1, b2, k⟩ := an_sargs_set (vs := vs) (qs := qs) i hv.2 hq
    exact ⟨w, b1, b2, fun l h h1 h2 => ⟨hv.1, k l h h1 h2⟩⟩
theorem an_split {B : an_B} {e : an_S} (i : Nat) {lo m hi : Int} (hp : pm_nth e.2.2.1 i = some (1, 0, lo, hi)) (h1 : an_sok B (e.1, e.2.1, e.2.2.1.set i (1, 0, lo, m), e.2.2.2)) (h2 : an_sok B (e.1, e.2.1, e.2.2.1.set i (1, 0, m + 1, hi), e.2.2.2)) : an_sok B e := by
  intro σ As hB hA hC
  obtain ⟨w, b1, b2, k⟩ := an_sargs_set i hA hp
  by_cases q : w.toInt ≤ m
  · exact h1 σ As hB (k lo m b1 q) hC
  · exact h2 σ As hB (k (m + 1) hi (by omega) b2) hC
