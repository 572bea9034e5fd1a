/-! THE LAW'S LOOP, AND ITS BEGINNING -/
/-- all that is asked of both sides: each call's answers are alike, and the invariant is kept -/
def AllTwo (I J : pm_S → Prop) : Prop :=
  (∀ a1 : Int32, Two 1 false I J 128 161 [.int a1]) ∧
  (∀ a1 : Int32, Two 1 false I J 129 166 [.int a1]) ∧
  (∀ a1 a2 a3 : Int32, Two 1 false I J 130 167 [.int a1, .int a2, .int a3]) ∧
  (∀ a1 a2 a3 : Int32, Two 1 false I J 131 168 [.int a1, .int a2, .int a3]) ∧
  (∀ a1 a2 a3 a4 : Int32, Two 1 false I J 132 169 [.int a1, .int a2, .int a3, .int a4]) ∧
  (∀ a1 a2 : Int32, Two 1 false I J 133 172 [.int a1, .int a2]) ∧
  (∀ a1 a2 : Int32, Two 1 false I J 134 173 [.int a1, .int a2]) ∧
  (∀ a1 a2 a3 a4 a5 : Int32, Two 1 false I J 135 175 [.int a1, .int a2, .int a3, .int a4, .int a5]) ∧
  (∀ a1 : Int32, Two 1 false I J 136 176 [.int a1]) ∧
  (Two 1 false I J 137 195 []) ∧
  (∀ a1 : Int32, Two 1 false I J 138 196 [.int a1]) ∧
  (Two 1 false I J 139 211 []) ∧
  (∀ a1 : Int32, Two 1 false I J 140 212 [.int a1]) ∧
  (∀ a1 a2 : Int32, Two 1 false I J 141 214 [.int a1, .int a2]) ∧
  (∀ a1 a2 : Int32, Two 1 false I J 142 215 [.int a1, .int a2]) ∧
  (∀ a1 : Int32, Two 1 false I J 143 220 [.int a1]) ∧
  (∀ a1 a2 : Int32, Two 1 false I J 144 223 [.int a1, .int a2]) ∧
  (∀ a1 a2 : Int32, Two 1 false I J 145 225 [.int a1, .int a2]) ∧
  (∀ a1 a2 a3 a4 : Int32, Two 1 false I J 146 229 [.int a1, .int a2, .int a3, .int a4]) ∧
  (∀ a1 a2 a3 : Int32, Two 1 false I J 147 230 [.int a1, .int a2, .int a3]) ∧
  (∀ a1 a2 a3 : Int32, Two 2 false I J 148 238 [.int a1, .int a2, .int a3]) ∧
  (∀ a1 a2 a3 a4 : Int32, Two 1 false I J 149 239 [.int a1, .int a2, .int a3, .int a4]) ∧
  (∀ a1 : Int32, Two 1 false I J 150 241 [.int a1]) ∧
  (∀ w : Int32, w = 0 ∨ w = 1 → Two 1 false I J 151 245 [.int w]) ∧
  (∀ a1 : Int32, Two 1 true I J 152 246 [.int a1])
set_option maxRecDepth 20000 in
theorem law_next {E : pm_E} {d i : Nat} {τ : pm_S} {Q : Option Value → pm_S → Prop} (hd : 1201 ≤ d) (kk : pm_OkS E d 256 10 [.retAddr 30, .ref 0, .ref 93, .int (nI (i + 6))] [] τ Q) : pm_OkS E d 256 705 [.retAddr 30, .ref 0, .ref 93, .int (nI i)] [] τ Q := by
  refine OkL.go (D := 1200) (by omega) [10] 10 (fun R cl Z hR hcl hZ => ?_)
  conv => whnf
  have e : nI i + Int32.ofInt 6 = nI (i + 6) := nI_add i 6
  refine hR _ _ _ _ ?_
  show pm_OkS E d 256 10 [.retAddr 30, .ref 0, .ref 93, .int (nI i + Int32.ofInt 6)] [] τ Q
  rw [e]
  exact kk
set_option maxRecDepth 40000 in
set_option maxHeartbeats 2000000 in
theorem law_loop {I J : pm_S → Prop} (hp : AllTwo I J) {E : pm_E} {d : Nat} (hd : 1201 ≤ d) (hn : pe_n E ≤ 3072) (hJ : ∀ τ, J τ → 12 ≤ pe_n E → I τ) : ∀ (n i : Nat) (σ : pm_S), pe_n E < i + n → i ≤ pe_n E → (i + 6 ≤ pe_n E → I σ) → pm_OkS E d 256 10 [.retAddr 30, .ref 0, .ref 93, .int (nI i)] [] σ (fun r _ => r = some (.int 1)) := by
  obtain ⟨p_state, p_spot, p_way, p_person, p_debt, p_set, p_goal, p_feed, p_end, p_text, p_fault, p_sunday, p_pass, p_of, p_owed, p_cleared, p_first, p_tour, p_share, p_chance, p_waiting, p_line, p_wrong, p_image, p_look⟩ := hp
  intro n
  induction n with
  | zero =>
    intro i σ hin hi hI
    omega
  | succ n ih =>
    intro i σ hin hi hI
    refine OkL.go (D := 1200) (by omega) [22, 39, 56, 93, 130, 177, 204, 231, 288, 305, 312, 329, 336, 353, 380, 407, 424, 451, 478, 525, 562, 599, 646, 663, 688, 705] 30 (fun R cl Z hR hcl hZ => ?_)
    conv => whnf
    refine ⟨fun h1 => ?_, fun h1 => ?_⟩
    · conv => whnf
      exact ⟨fun _ => hZ _ _ rfl, fun z => absurd (Or.inr rfl) z⟩
    · have hi6 : i + 6 ≤ pe_n E := by
        have h2 : ¬ (nI (pe_n E) - nI 6 < nI i) := h1
        have h3 : (nI (pe_n E) - nI 6).toInt = (pe_n E : Int) - 6 := pk_sub_toInt (by omega) (by omega)
        have h4 : (nI i).toInt = (i : Int) := nI_toInt (by omega)
        rw [Int32.lt_iff_toInt_lt, h3, h4] at h2
        omega
      have kk : ∀ τ, J τ → pm_OkS E d 256 705 [.retAddr 30, .ref 0, .ref 93, .int (nI i)] [] τ (fun r _ => r = some (.int 1)) := fun τ hτ => law_next hd (ih (i + 6) τ (by omega) hi6 (fun h => hJ τ hτ (by omega)))
      conv => whnf
      refine pm_gd (nI_in (by omega) (by omega)) ?_
      conv => whnf
      refine ⟨fun _ => hR _ _ _ _ (law_state hd hn hi6 (hI hi6) p_state kk), fun _ => ?_⟩
      conv => whnf
      refine ⟨fun _ => hR _ _ _ _ (law_spot hd hn hi6 (hI hi6) p_spot kk), fun _ => ?_⟩
      conv => whnf
      refine ⟨fun _ => hR _ _ _ _ (law_way hd hn hi6 (hI hi6) p_way kk), fun _ => ?_⟩
      conv => whnf
      refine ⟨fun _ => hR _ _ _ _ (law_person hd hn hi6 (hI hi6) p_person kk), fun _ => ?_⟩
      conv => whnf
      refine ⟨fun _ => hR _ _ _ _ (law_debt hd hn hi6 (hI hi6) p_debt kk), fun _ => ?_⟩
      conv => whnf
      refine ⟨fun _ => hR _ _ _ _ (law_set hd hn hi6 (hI hi6) p_set kk), fun _ => ?_⟩
      conv => whnf
      refine ⟨fun _ => hR _ _ _ _ (law_goal hd hn hi6 (hI hi6) p_goal kk), fun _ => ?_⟩
      conv => whnf
      refine ⟨fun _ => hR _ _ _ _ (law_feed hd hn hi6 (hI hi6) p_feed kk), fun _ => ?_⟩
      conv => whnf
      refine ⟨fun _ => hR _ _ _ _ (law_end hd hn hi6 (hI hi6) p_end kk), fun _ => ?_⟩
      conv => whnf
      refine ⟨fun _ => hR _ _ _ _ (law_text hd hn hi6 (hI hi6) p_text kk), fun _ => ?_⟩
      conv => whnf
      refine ⟨fun _ => hR _ _ _ _ (law_fault hd hn hi6 (hI hi6) p_fault kk), fun _ => ?_⟩
      conv => whnf
      refine ⟨fun _ => hR _ _ _ _ (law_sunday hd hn hi6 (hI hi6) p_sunday kk), fun _ => ?_⟩
      conv => whnf
      refine ⟨fun _ => hR _ _ _ _ (law_pass hd hn hi6 (hI hi6) p_pass kk), fun _ => ?_⟩
      conv => whnf
      refine ⟨fun _ => hR _ _ _ _ (law_of hd hn hi6 (hI hi6) p_of kk), fun _ => ?_⟩
      conv => whnf
      refine ⟨fun _ => hR _ _ _ _ (law_owed hd hn hi6 (hI hi6) p_owed kk), fun _ => ?_⟩
      conv => whnf
      refine ⟨fun _ => hR _ _ _ _ (law_cleared hd hn hi6 (hI hi6) p_cleared kk), fun _ => ?_⟩
      conv => whnf
      refine ⟨fun _ => hR _ _ _ _ (law_first hd hn hi6 (hI hi6) p_first kk), fun _ => ?_⟩
      conv => whnf
      refine ⟨fun _ => hR _ _ _ _ (law_tour hd hn hi6 (hI hi6) p_tour kk), fun _ => ?_⟩
      conv => whnf
      refine ⟨fun _ => hR _ _ _ _ (law_share hd hn hi6 (hI hi6) p_share kk), fun _ => ?_⟩
      conv => whnf
      refine ⟨fun _ => hR _ _ _ _ (law_chance hd hn hi6 (hI hi6) p_chance kk), fun _ => ?_⟩
      conv => whnf
      refine ⟨fun _ => hR _ _ _ _ (law_waiting hd hn hi6 (hI hi6) p_waiting kk), fun _ => ?_⟩
      conv => whnf
      refine ⟨fun _ => hR _ _ _ _ (law_line hd hn hi6 (hI hi6) p_line kk), fun _ => ?_⟩
      conv => whnf
      refine ⟨fun _ => hR _ _ _ _ (law_wrong hd hn hi6 (hI hi6) p_wrong kk), fun _ => ?_⟩
      conv => whnf
      refine ⟨fun _ => hR _ _ _ _ (law_image hd hn hi6 (hI hi6) p_image kk), fun _ => ?_⟩
      conv => whnf
      refine ⟨fun _ => hR _ _ _ _ (law_look hd hn hi6 (hI hi6) p_look kk), fun _ => ?_⟩
      conv => whnf
      exact hR _ _ _ _ (law_next hd (ih (i + 6) σ (by omega) hi6 (fun h => hI hi6)))
