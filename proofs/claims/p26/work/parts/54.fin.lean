/-! both sides of a call that is not compared: the class by its summary, the model by any contract that keeps what is asked of it -/
/-- P speaks of the model's cells alone -/
def an_md93 (P : pm_S → Prop) : Prop := ∀ σ τ : pm_S, (∀ p j, 93 ≤ p → τ.1 p j = σ.1 p j) → P σ → P τ
theorem an_foot93 {F : List (Nat × Nat)} (h : F.all (fun q => Nat.ble q.1 92) = true) {p j : Nat} (hp : 93 ≤ p) : an_inF F p j = false := by
  rcases hb : an_inF F p j with _ | _
  · rfl
  · exfalso
    obtain ⟨q, h1, h2, -⟩ := an_inF_mem.mp hb
    have := Nat.le_of_ble_eq_true (List.all_eq_true.mp h q h1)
    omega
theorem an_two_N {B : an_B} {P : pm_S → Prop} (hP : an_md93 P) {t kM : Nat} {eC : an_S} (hC : an_sok B eC) (hD : eC.2.1 ≤ 1200) (hc : eC.2.2.2.1 = []) (hf : eC.2.2.2.2.2.1.all (fun q => Nat.ble q.1 92) = true) (ht : (match t with
    | 1 => eC.2.2.2.2.1.1 = 1
    | _ => eC.2.2.2.2.1.1 = 4)) {as : List Value} (has : an_sargs (.ref 0 :: as) eC.2.2.1)
    (hM : ∀ σ, an_GB B σ → P σ → Sp kM 1200 (.ref 93 :: as) σ (fun r τ => an_sh t r ∧ an_GB B τ ∧ P τ)) : Two t false (fun σ => an_GB B σ ∧ P σ) (fun σ => an_GB B σ ∧ P σ) eC.1 kM as := by
  intro σ hI
  refine (hC σ _ hI.1 has (by rw [hc]; exact fun q hq => absurd hq List.not_mem_nil)).use hD (fun r τ hr => ?_)
  obtain ⟨k1, k2, k3, -⟩ := hr
  have hPτ : P τ := hP σ τ (fun p j hp => k3 p j (an_foot93 hf hp)) hI.2
  refine ⟨?_, (hM τ k1 hPτ).mono (fun r' τ' h' => ⟨h'.1, fun z => absurd z (by decide), h'.2⟩)⟩
  unfold an_spost at k2
  unfold an_sh
  split at ht
  · rw [ht] at k2
    obtain ⟨w, e, -⟩ := k2
    exact ⟨w, e⟩
  · rename_i g
    rw [ht] at k2
    obtain ⟨w, e⟩ := k2
    split
    · exact absurd rfl g
    · exact ⟨w, e⟩
/-- the model by a summary that touches nothing of P -/
theorem an_mod_S {B : an_B} {P : pm_S → Prop} {t : Nat} {eM : an_S} (hM : an_sok B eM) (hD : eM.2.1 ≤ 1200) (hc : ∀ σ, an_GB B σ → P σ → an_scel σ eM.2.2.2.1) (hP : ∀ σ τ : pm_S, (∀ p j, an_inF eM.2.2.2.2.2.1 p j = false → τ.1 p j = σ.1 p j) → P σ → an_GB B τ → P τ) (ht : (match t with
    | 1 => eM.2.2.2.2.1.1 = 1
    | _ => eM.2.2.2.2.1.1 = 4)) {as : List Value} (has : an_sargs (.ref 93 :: as) eM.2.2.1) : ∀ σ, an_GB B σ → P σ → Sp eM.1 1200 (.ref 93 :: as) σ (fun r τ => an_sh t r ∧ an_GB B τ ∧ P τ) := by
  intro σ hB hp
  refine (hM σ _ hB has (hc σ hB hp)).use hD (fun r τ hr => ?_)
  obtain ⟨k1, k2, k3, -⟩ := hr
  refine ⟨?_, k1, hP σ τ k3 hp k1⟩
  unfold an_spost at k2
  unfold an_sh
  split at ht
  · rw [ht] at k2
    obtain ⟨w, e, -⟩ := k2
    exact ⟨w, e⟩
  · rename_i g
    rw [ht] at k2
    obtain ⟨w, e⟩ := k2
    split
    · exact absurd rfl g
    · exact ⟨w, e⟩
