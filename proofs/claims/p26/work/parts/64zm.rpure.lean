/-! rounds: what both sides do -/
section RPURE
variable {E : Nat → Prop} {D C : Nat → Nat}
theorem pth.last : ∀ {k a b : Nat}, pth E D C (k + 1) a b → ∃ d, pth E D C k a (D d) ∧ E d ∧ C d = b
  | 0, a, b, h => by
    obtain ⟨d, e1, e2, e3⟩ := h
    exact ⟨d, e2.symm, e1, e3⟩
  | k + 1, a, b, h => by
    obtain ⟨d, e1, e2, h⟩ := h
    obtain ⟨d', p, q, r⟩ := pth.last h
    exact ⟨d', ⟨d, e1, e2, p⟩, q, r⟩
theorem pth.snoc {k a d : Nat} (h : pth E D C k a (D d)) (e : E d) : pth E D C (k + 1) a (C d) := pth.app h (pth.one e)
theorem pth.eq {E' : Nat → Prop} {D' C' : Nat → Nat} (hE : ∀ d, E d ↔ E' d) (hD : ∀ d, E d → D d = D' d) (hC : ∀ d, E d → C d = C' d) : ∀ {k a b : Nat}, pth E D C k a b → pth E' D' C' k a b
  | 0, _, _, h => h
  | k + 1, a, b, h => by
    obtain ⟨d, e1, e2, h⟩ := h
    have h2 := pth.eq hE hD hC h
    rw [hC d e1] at h2
    exact ⟨d, (hE d).mp e1, (hD d e1).symm.trans e2, h2⟩
theorem pth.eqv {E' : Nat → Prop} {D' C' : Nat → Nat} (hE : ∀ d, E d ↔ E' d) (hD : ∀ d, E d → D d = D' d) (hC : ∀ d, E d → C d = C' d) {k a b : Nat} : pth E D C k a b ↔ pth E' D' C' k a b :=
  ⟨pth.eq hE hD hC, pth.eq (fun d => (hE d).symm) (fun d e => (hD d ((hE d).mpr e)).symm) (fun d e => (hC d ((hE d).mpr e)).symm)⟩
/-- a way goes over debts of which the first leaves from there -/
theorem pth.neg {k a b : Nat} (h : pth E D C k a b) (hn : a ≠ b) : ∃ d, E d ∧ D d = a := by
  match k with
  | 0 => exact absurd h hn
  | k + 1 =>
    obtain ⟨d, e1, e2, _⟩ := h
    exact ⟨d, e1, e2⟩
/-- no round where there are no two debts -/
theorem pth.two (hu : ∀ d, E d → D d ≠ C d) (h1 : ∀ d d', E d → E d' → d = d') {d : Nat} (e : E d) (k : Nat) : ¬ pth E D C k (C d) (D d) := fun h => by
  obtain ⟨d', e1, e2⟩ := h.neg (fun z => hu d e z.symm)
  rw [h1 d' d e1 e] at e2
  exact hu d e e2
/-- who leads on in a round is unlike all ahead of him -/
theorem rnd.inj {r : Nat → Nat} {n : Nat} (h : rnd E D C r n) (hu : ∀ d, E d → D d ≠ C d) {i j : Nat} (hij : j < i) (hi : i < n) : D (r i) ≠ D (r j) := fun e => by
  rcases (h i hi).2 with z | ⟨_, z, _, _⟩
  · omega
  · rw [z] at e
    have h1 := h (i - 1) (by omega)
    rcases Nat.eq_zero_or_pos (i - 1) with w | w
    · rw [show j = i - 1 by omega] at e
      exact hu _ h1.1 e.symm
    · rcases h1.2 with z1 | ⟨_, _, _, z1⟩
      · omega
      · by_cases c : j = i - 1
        · rw [c] at e
          exact hu _ h1.1 e.symm
        · exact z1 (by omega) j (by omega) e
theorem rnd.inj2 {r : Nat → Nat} {n : Nat} (h : rnd E D C r n) (hu : ∀ d, E d → D d ≠ C d) {i j : Nat} (hi : i < n) (hj : j < n) (e : r i = r j) : i = j := by
  rcases Nat.lt_trichotomy i j with x | x | x
  · exact absurd (congrArg D e).symm (h.inj hu x hj)
  · exact x
  · exact absurd (congrArg D e) (h.inj hu x hi)
end RPURE
/-- coins, on which Sunday, how, how many: one debt of a round -/
def cn1 (su lt : Int32) (t : P3) (d : Nat) : P3 := if t.1 d - lt = 0 then (rup t.1 d (t.1 d - lt), rup t.2.1 d su, rup t.2.2.1 d 2, t.2.2.2 + 1) else (rup t.1 d (t.1 d - lt), t.2.1, t.2.2.1, t.2.2.2)
/-- the first i debts of a round -/
def cnF (su lt : Int32) (R : Nat → Nat) (t : P3) : Nat → P3
  | 0 => t
  | i + 1 => cn1 su lt (cnF su lt R t i) (R i)
/-- the least of m and the first i coins of a round -/
def lsF (m : Int) (co : Nat → Int32) (R : Nat → Nat) : Nat → Int
  | 0 => m
  | i + 1 => min (lsF m co R i) (co (R i)).toInt
theorem lsF_le (m : Int) (co : Nat → Int32) (R : Nat → Nat) : ∀ n i, i < n → lsF m co R n ≤ (co (R i)).toInt
  | 0, i, h => absurd h (Nat.not_lt_zero _)
  | n + 1, i, h => by
    show min (lsF m co R n) (co (R n)).toInt ≤ _
    by_cases e : i = n
    · rw [e]
      omega
    · have := lsF_le m co R n i (by omega)
      omega
theorem lsF_at (m : Int) (co : Nat → Int32) (R : Nat → Nat) : ∀ n, lsF m co R n = m ∨ ∃ i, i < n ∧ lsF m co R n = (co (R i)).toInt
  | 0 => Or.inl rfl
  | n + 1 => by
    show min (lsF m co R n) (co (R n)).toInt = m ∨ ∃ i, i < n + 1 ∧ min (lsF m co R n) (co (R n)).toInt = (co (R i)).toInt
    rcases Int.le_total (lsF m co R n) (co (R n)).toInt with x | x
    · rw [Int.min_eq_left x]
      rcases lsF_at m co R n with h | ⟨i, hi, h⟩
      · exact Or.inl h
      · exact Or.inr ⟨i, by omega, h⟩
    · rw [Int.min_eq_right x]
      exact Or.inr ⟨n, by omega, rfl⟩
/-- where one coin at least is no more than m, m doesn't matter -/
theorem lsF_m {m m' : Int} {co : Nat → Int32} {R : Nat → Nat} {n : Nat} (hn : 0 < n) (h : ∀ i, i < n → (co (R i)).toInt ≤ m) (h' : ∀ i, i < n → (co (R i)).toInt ≤ m') : lsF m co R n = lsF m' co R n := by
  have a := lsF_le m co R n
  have a' := lsF_le m' co R n
  have low : ∀ {m m' : Int}, (∀ i, i < n → (co (R i)).toInt ≤ m) → lsF m' co R n ≤ lsF m co R n := fun {m m'} g => by
    rcases lsF_at m co R n with e | ⟨i, hi, e⟩
    · have x := lsF_le m' co R n 0 hn
      have y := g 0 hn
      omega
    · rw [e]
      exact lsF_le m' co R n i hi
  exact Int.le_antisymm (low h') (low h)
theorem lsF_c {m : Int} {co co' : Nat → Int32} {R R' : Nat → Nat} : ∀ n, (∀ i, i < n → co (R i) = co' (R' i)) → lsF m co R n = lsF m co' R' n
  | 0, _ => rfl
  | n + 1, h => by
    show min (lsF m co R n) (co (R n)).toInt = min (lsF m co' R' n) (co' (R' n)).toInt
    rw [lsF_c n (fun i hi => h i (by omega)), h n (by omega)]
theorem cnF_n (su lt : Int32) (R : Nat → Nat) (t : P3) : ∀ i, (cnF su lt R t i).2.2.2 ≤ t.2.2.2 + i
  | 0 => Nat.le_refl _
  | i + 1 => by
    have ih := cnF_n su lt R t i
    show (cn1 su lt (cnF su lt R t i) (R i)).2.2.2 ≤ _
    unfold cn1
    split
    · show (cnF su lt R t i).2.2.2 + 1 ≤ _
      omega
    · show (cnF su lt R t i).2.2.2 ≤ _
      omega
/-- alike below D -/
def agr (D : Nat) (t t' : P3) : Prop := (∀ d, d < D → t.1 d = t'.1 d ∧ t.2.1 d = t'.2.1 d ∧ t.2.2.1 d = t'.2.2.1 d) ∧ t.2.2.2 = t'.2.2.2
theorem rup_c {f g : Nat → Int32} {D p d : Nat} {v w : Int32} (h : ∀ d, d < D → f d = g d) (e : v = w) (hd : d < D) : rup f p v d = rup g p w d := by
  unfold rup
  rw [h d hd, e]
theorem cn1_c {D : Nat} {su lt : Int32} {t t' : P3} (h : agr D t t') {d : Nat} (hd : d < D) : agr D (cn1 su lt t d) (cn1 su lt t' d) := by
  have e1 := (h.1 d hd).1
  have a1 : ∀ q, q < D → t.1 q = t'.1 q := fun q hq => (h.1 q hq).1
  have a2 : ∀ q, q < D → t.2.1 q = t'.2.1 q := fun q hq => (h.1 q hq).2.1
  have a3 : ∀ q, q < D → t.2.2.1 q = t'.2.2.1 q := fun q hq => (h.1 q hq).2.2
  unfold cn1
  rw [e1]
  split
  · exact ⟨fun q hq => ⟨rup_c a1 rfl hq, rup_c a2 rfl hq, rup_c a3 rfl hq⟩, congrArg (· + 1) h.2⟩
  · exact ⟨fun q hq => ⟨rup_c a1 rfl hq, a2 q hq, a3 q hq⟩, h.2⟩
theorem cnF_c {D : Nat} {su lt : Int32} {R R' : Nat → Nat} {t t' : P3} (h : agr D t t') : ∀ n, (∀ i, i < n → R i = R' i ∧ R i < D) → agr D (cnF su lt R t n) (cnF su lt R' t' n)
  | 0, _ => h
  | n + 1, hR => by
    have ih := cnF_c (su := su) (lt := lt) h n (fun i hi => hR i (by omega))
    have z := hR n (by omega)
    show agr D (cn1 su lt (cnF su lt R t n) (R n)) (cn1 su lt (cnF su lt R' t' n) (R' n))
    rw [← z.1]
    exact cn1_c ih z.2
/-- a debt that the first i are not is untouched -/
theorem cnF_o {su lt : Int32} {R : Nat → Nat} {t : P3} {d : Nat} : ∀ n, (∀ i, i < n → R i ≠ d) → (cnF su lt R t n).1 d = t.1 d ∧ (cnF su lt R t n).2.2.1 d = t.2.2.1 d
  | 0, _ => ⟨rfl, rfl⟩
  | n + 1, h => by
    have ih := cnF_o (su := su) (lt := lt) (t := t) n (fun i hi => h i (by omega))
    have z : d ≠ R n := fun e => h n (by omega) e.symm
    show (cn1 su lt (cnF su lt R t n) (R n)).1 d = _ ∧ (cn1 su lt (cnF su lt R t n) (R n)).2.2.1 d = _
    unfold cn1
    split
    · exact ⟨(rup_n z).trans ih.1, (rup_n z).trans ih.2⟩
    · exact ⟨(rup_n z).trans ih.1, ih.2⟩
/-- who is paid stays paid -/
theorem cnF_k {su lt : Int32} {R : Nat → Nat} {t : P3} {d : Nat} (h : t.2.2.1 d ≠ 0) : ∀ n, (cnF su lt R t n).2.2.1 d ≠ 0
  | 0 => h
  | n + 1 => by
    have ih := cnF_k (su := su) (lt := lt) (R := R) h n
    show (cn1 su lt (cnF su lt R t n) (R n)).2.2.1 d ≠ 0
    unfold cn1
    split
    · show rup (cnF su lt R t n).2.2.1 (R n) 2 d ≠ 0
      unfold rup
      split
      · decide
      · exact ih
    · exact ih
/-- the one with the least coins is paid -/
theorem cnF_y {su : Int32} {m : Int} {R : Nat → Nat} {t : P3} {n : Nat} (hn : 0 < n) (hm : ∀ i, i < n → (t.1 (R i)).toInt ≤ m) (hi : ∀ i j, i < n → j < n → R i = R j → i = j) : ∃ i, i < n ∧ (cnF su (Int32.ofInt (lsF m t.1 R n)) R t n).2.2.1 (R i) ≠ 0 := by
  obtain ⟨i, h1, h2⟩ : ∃ i, i < n ∧ lsF m t.1 R n = (t.1 (R i)).toInt := by
    rcases lsF_at m t.1 R n with e | e
    · have a := lsF_le m t.1 R n 0 hn
      have b := hm 0 hn
      exact ⟨0, hn, by omega⟩
    · exact e
  refine ⟨i, h1, ?_⟩
  rw [h2, oI]
  have step : ∀ k, i + 1 + k ≤ n → (cnF su (t.1 (R i)) R t (i + 1 + k)).2.2.1 (R i) ≠ 0 := by
    intro k
    induction k with
    | zero =>
      intro _
      have o := (cnF_o (su := su) (lt := t.1 (R i)) (t := t) (d := R i) i (fun j hj e => by have := hi j i (by omega) h1 e; omega)).1
      show (cn1 su (t.1 (R i)) (cnF su (t.1 (R i)) R t i) (R i)).2.2.1 (R i) ≠ 0
      unfold cn1
      rw [o, Int32.sub_self, if_pos rfl]
      show rup _ (R i) 2 (R i) ≠ 0
      rw [rup_s]
      decide
    | succ k ih =>
      intro hk
      have z := ih (by omega)
      show (cn1 su (t.1 (R i)) (cnF su (t.1 (R i)) R t (i + 1 + k)) (R (i + 1 + k))).2.2.1 (R i) ≠ 0
      unfold cn1
      split
      · show rup _ (R (i + 1 + k)) 2 (R i) ≠ 0
        unfold rup
        split
        · decide
        · exact z
      · exact z
  have := step (n - (i + 1)) (by omega)
  rw [show i + 1 + (n - (i + 1)) = n by omega] at this
  exact this
/-- how many are open -/
abbrev opnd (hw : Nat → Int32) (D : Nat) : Nat := cntP (fun d => decide (hw d = 0)) D
theorem cntP_mo {P Q : Nat → Bool} : ∀ {n : Nat}, (∀ d, d < n → P d = true → Q d = true) → cntP P n ≤ cntP Q n
  | 0, _ => Nat.le_refl _
  | n + 1, h => by
    have ih := cntP_mo (P := P) (Q := Q) (n := n) (fun d hd => h d (by omega))
    show cntP P n + (if P n = true then 1 else 0) ≤ cntP Q n + (if Q n = true then 1 else 0)
    by_cases p : P n = true
    · rw [if_pos p, if_pos (h n (by omega) p)]
      omega
    · rw [if_neg p]
      omega
theorem cntP_lt {P Q : Nat → Bool} : ∀ {n e : Nat}, (∀ d, d < n → P d = true → Q d = true) → e < n → P e = false → Q e = true → cntP P n < cntP Q n
  | 0, e, _, he, _, _ => absurd he (Nat.not_lt_zero _)
  | n + 1, e, h, he, p, q => by
    show cntP P n + (if P n = true then 1 else 0) < cntP Q n + (if Q n = true then 1 else 0)
    by_cases c : e = n
    · have ih := cntP_mo (P := P) (Q := Q) (n := n) (fun d hd => h d (by omega))
      rw [c] at p q
      rw [if_neg (by rw [p]; decide), if_pos q]
      omega
    · have ih := cntP_lt (P := P) (Q := Q) (n := n) (e := e) (fun d hd => h d (by omega)) (by omega) p q
      by_cases x : P n = true
      · rw [if_pos x, if_pos (h n (by omega) x)]
        omega
      · rw [if_neg x]
        omega
theorem opnd_lt {hw hw' : Nat → Int32} {D e : Nat} (h : ∀ d, hw d ≠ 0 → hw' d ≠ 0) (he : e < D) (h1 : hw e = 0) (h2 : hw' e ≠ 0) : opnd hw' D < opnd hw D :=
  cntP_lt (fun d _ p => decide_eq_true (by
    by_cases c : hw d = 0
    · exact c
    · exact absurd (of_decide_eq_true p) (h d c))) he (decide_eq_false h2) (decide_eq_true h1)
theorem opnd_pos {hw : Nat → Int32} {D d : Nat} (hd : d < D) (h : hw d = 0) : 0 < opnd hw D := by
  have a : cntP (fun _ => false) D < opnd hw D := cntP_lt (fun _ _ z => by cases z) hd rfl (decide_eq_true h)
  omega
/-- the debts of a spot that may be in a round -/
def eR (bs : Nat → Bool) (pl hw : Nat → Int32) (D s : Nat) (d : Nat) : Prop := d < D ∧ hw d = 0 ∧ bs d = true ∧ (pl d).toInt = (s : Int)
theorem eR_c {bs bs' : Nat → Bool} {pl pl' hw hw' : Nat → Int32} {D s : Nat} (h1 : ∀ d, d < D → bs d = bs' d) (h2 : ∀ d, d < D → pl d = pl' d) (h3 : ∀ d, d < D → hw d = hw' d) (d : Nat) : eR bs pl hw D s d ↔ eR bs' pl' hw' D s d := by
  unfold eR
  constructor
  · rintro ⟨a, b, c, e⟩
    rw [h3 d a] at b
    rw [h1 d a] at c
    rw [h2 d a] at e
    exact ⟨a, b, c, e⟩
  · rintro ⟨a, b, c, e⟩
    rw [← h3 d a] at b
    rw [← h1 d a] at c
    rw [← h2 d a] at e
    exact ⟨a, b, c, e⟩
abbrev nt (f : Nat → Int32) : Nat → Nat := fun d => (f d).toInt.toNat
/-- what is fixed while rounds are cancelled: do both stand there, spot, debtor, creditor, Sunday, how many debts -/
abbrev cxt : Type := (Nat → Bool) × (Nat → Int32) × (Nat → Int32) × (Nat → Int32) × Int32 × Nat
abbrev cxt.bs (c : cxt) : Nat → Bool := c.1
abbrev cxt.pl (c : cxt) : Nat → Int32 := c.2.1
abbrev cxt.db (c : cxt) : Nat → Int32 := c.2.2.1
abbrev cxt.cr (c : cxt) : Nat → Int32 := c.2.2.2.1
abbrev cxt.su (c : cxt) : Int32 := c.2.2.2.2.1
abbrev cxt.D (c : cxt) : Nat := c.2.2.2.2.2
abbrev cxt.E (c : cxt) (t : P3) (s : Nat) : Nat → Prop := eR c.bs c.pl t.2.2.1 c.D s
/-- a round of n is cancelled -/
abbrev cxt.go (c : cxt) (R : Nat → Nat) (n : Nat) (t : P3) : P3 := cnF c.su (Int32.ofInt (lsF 1073741824 t.1 R n)) R t n
/-- k rounds of a spot, each the first of the shortest; then there is none -/
def rdc (c : cxt) (s : Nat) : Nat → P3 → P3 → Prop
  | 0, a, b => a = b ∧ ∀ d, c.E a s d → ∀ j, j ≤ 9 → ¬ pth (c.E a s) (nt c.db) (nt c.cr) j (nt c.cr d) (nt c.db d)
  | k + 1, a, b => ∃ R n, trc (c.E a s) (nt c.db) (nt c.cr) R n ∧ rdc c s k (c.go R n a) b
/-- k rounds of a spot, each the first of those of the least number; then there is none -/
def rdm (c : cxt) (P s : Nat) : Nat → P3 → P3 → Prop
  | 0, a, b => a = b ∧ ∀ n, 2 ≤ n → n ≤ P → ∀ r, ¬ rnd (c.E a s) (nt c.db) (nt c.cr) r n
  | k + 1, a, b => ∃ R n, 2 ≤ n ∧ n ≤ P ∧ rnd (c.E a s) (nt c.db) (nt c.cr) R n ∧ (∀ r', rnd (c.E a s) (nt c.db) (nt c.cr) r' n → ∀ i, i < n → (∀ j, j < i → r' j = R j) → R i ≤ r' i) ∧ (∀ n', 2 ≤ n' → n' < n → ∀ r, ¬ rnd (c.E a s) (nt c.db) (nt c.cr) r n') ∧ rdm c P s k (c.go R n a) b
def cxt.as (c c' : cxt) : Prop := (∀ d, d < c.D → c.bs d = c'.bs d ∧ c.pl d = c'.pl d ∧ c.db d = c'.db d ∧ c.cr d = c'.cr d) ∧ c.su = c'.su ∧ c.D = c'.D
theorem rnd_c {E E' : Nat → Prop} {D D' C C' : Nat → Nat} (hE : ∀ d, E d ↔ E' d) (hD : ∀ d, E d → D d = D' d) (hC : ∀ d, E d → C d = C' d) {r : Nat → Nat} {n : Nat} (h : rnd E D C r n) : rnd E' D' C' r n := by
  intro i hi
  have a := h i hi
  refine ⟨(hE _).mp a.1, ?_⟩
  rcases a.2 with z | ⟨z1, z2, z3, z4⟩
  · exact Or.inl z
  · have x0 := (h 0 (by omega)).1
    have xi := (h (i - 1) (by omega)).1
    rw [hD _ a.1, hC _ xi] at z2
    refine Or.inr ⟨z1, z2, fun w => ?_, fun w j hj => ?_⟩
    · have := z3 w
      rw [hC _ a.1, hD _ x0] at this
      exact this
    · have := z4 w j hj
      rw [hC _ a.1, hD _ (h j (by omega)).1] at this
      exact this
theorem cxt.as.E {c c' : cxt} (h : c.as c') {t t' : P3} (g : agr c.D t t') (s d : Nat) : c.E t s d ↔ c'.E t' s d := by
  show eR c.bs c.pl t.2.2.1 c.D s d ↔ eR c'.bs c'.pl t'.2.2.1 c'.D s d
  rw [← h.2.2]
  exact eR_c (fun d hd => (h.1 d hd).1) (fun d hd => (h.1 d hd).2.1) (fun d hd => (g.1 d hd).2.2) d
/-- both ways of cancelling a spot's rounds come to the same -/
theorem rd_eq {c c' : cxt} {P s : Nat} (h : c.as c') (hP : P ≤ 10) (hdb : ∀ d, d < c.D → nt c.db d < P) : ∀ (k k' : Nat) (a b a' b' : P3), agr c.D a a' → rdc c s k a b → rdm c' P s k' a' b' → agr c.D b b' := by
  have eD : ∀ d, d < c.D → nt c.db d = nt c'.db d := fun d hd => congrArg (fun w : Int32 => w.toInt.toNat) (h.1 d hd).2.2.1
  have eC : ∀ d, d < c.D → nt c.cr d = nt c'.cr d := fun d hd => congrArg (fun w : Int32 => w.toInt.toNat) (h.1 d hd).2.2.2
  have back : ∀ {a a' : P3}, agr c.D a a' → ∀ {r : Nat → Nat} {n : Nat}, rnd (c'.E a' s) (nt c'.db) (nt c'.cr) r n → rnd (c.E a s) (nt c.db) (nt c.cr) r n := fun {a a'} g {r n} q =>
    rnd_c (fun d => (h.E g s d).symm) (fun d e => (eD d ((h.E g s d).mpr e).1).symm) (fun d e => (eC d ((h.E g s d).mpr e).1).symm) q
  have forth : ∀ {a a' : P3}, agr c.D a a' → ∀ {r : Nat → Nat} {n : Nat}, rnd (c.E a s) (nt c.db) (nt c.cr) r n → rnd (c'.E a' s) (nt c'.db) (nt c'.cr) r n := fun {a a'} g {r n} q =>
    rnd_c (fun d => h.E g s d) (fun d e => eD d e.1) (fun d e => eC d e.1) q
  have small : ∀ {a : P3} {R : Nat → Nat} {n : Nat}, trc (c.E a s) (nt c.db) (nt c.cr) R n → n ≤ P := fun {a R n} t =>
    php P n (fun i => nt c.db (R i)) (fun i hi => hdb _ ((t.rd i hi).1).1) (fun i j hi hj e => t.inj hi hj e)
  intro k
  induction k with
  | zero =>
    intro k' a b a' b' g hc hm
    obtain ⟨rfl, hn⟩ := hc
    cases k' with
    | zero =>
      obtain ⟨rfl, _⟩ := hm
      exact g
    | succ k' =>
      obtain ⟨R, n, h2, hnP, hr, _⟩ := hm
      exact absurd (back g hr) (rnd_none hn h2 (by omega))
  | succ k ih =>
    intro k' a b a' b' g hc hm
    obtain ⟨R, n, ht, hc⟩ := hc
    cases k' with
    | zero =>
      exact absurd (forth g ht.rd) (hm.2 n ht.1 (small ht) R)
    | succ k' =>
      obtain ⟨R', n', h2, hnP, hr, hl, hs, hm⟩ := hm
      have m := ht.min h2 (by omega) (back g hr)
      have en : n = n' := by
        rcases Nat.lt_or_ge n n' with x | x
        · exact absurd (forth g ht.rd) (hs n ht.1 x R)
        · omega
      subst en
      have eR' := ht.one (back g hr) (fun r' q i hi e => hl r' (forth g q) i hi e)
      refine ih k' _ _ _ _ ?_ hc hm
      have lt : ∀ i, i < n → R i < c.D := fun i hi => ((ht.rd i hi).1).1
      show agr c.D (cnF c.su _ R a n) (cnF c'.su _ R' a' n)
      have ec : ∀ i, i < n → a.1 (R i) = a'.1 (R' i) := fun i hi => by
        rw [eR' i hi]
        exact (g.1 _ (lt i hi)).1
      rw [h.2.1, lsF_c (m := 1073741824) (co := a.1) (co' := a'.1) (R := R) (R' := R') n ec]
      exact cnF_c g n (fun i hi => ⟨(eR' i hi).symm, lt i hi⟩)
