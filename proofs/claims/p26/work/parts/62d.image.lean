/-! image -/
theorem m_keepsDebts {σ0 σ : pm_S} {t : Int} (ht : t = 0 ∨ t = 1) (hb : bdI σ0 t) (hI : imI σ0 t σ 250) : Sp 243 11 [.ref 93] σ (fun r τ => r = none ∧ imI σ0 t τ 582) := by
  refine Sp.at rfl rfl ?_
  refine sg_kd0 _ rfl hI.1 ?_
  intro τ y v hv hB1 hF1 _ _ _ c1
  refine im_fld (m := 250) rfl rfl rfl ht hb (by decide) rfl (fun _ _ => rfl) rfl (by decide) (hI.fr hB1 hF1) (by rw [← c1.1, oI]) ?_
  intro τ2 hI2
  refine sg_kd6 v hv hI2.1 ?_
  intro τ3 y3 hB3 hF3 _ _ _ _
  refine im_d1 ht hb ?_ 30 0 τ3 rfl (hI2.fr hB3 hF3)
  intro σ4 w hw hI4
  refine sg_kd83 w hw hI4.1 ?_
  intro τ5 y5 v5 hv5 hB5 hF5 _ _ _ c5
  refine im_fld (m := 461) rfl rfl rfl ht hb (by decide) rfl (fun _ _ => rfl) rfl (by decide) (hI4.fr hB5 hF5) (by rw [← c5.1, oI]) ?_
  intro τ6 hI6
  refine sg_kd89 v5 hv5 hI6.1 ?_
  intro τ7 y7 hB7 hF7 _ _ _ _
  refine im_d2 ht hb ?_ 30 0 τ7 rfl (hI6.fr hB7 hF7)
  intro σ8 w8 hw8 hI8
  refine sg_kd136 w8 hw8 hI8.1 ?_
  intro τ9 y9 hB9 hF9 _ _ _ _
  exact ⟨rfl, hI8.fr hB9 hF9⟩
theorem m_keepsLaw {σ0 σ : pm_S} {t : Int} (ht : t = 0 ∨ t = 1) (hb : bdI σ0 t) (hI : imI σ0 t σ 582) : Sp 244 11 [.ref 93] σ (fun r τ => r = none ∧ imI σ0 t τ 1431) := by
  refine Sp.at rfl rfl ?_
  refine sg_kw0 _ rfl hI.1 ?_
  intro τ y v hv hB1 hF1 _ _ _ c1
  refine im_fld (m := 582) rfl rfl rfl ht hb (by decide) rfl (fun _ _ => rfl) rfl (by decide) (hI.fr hB1 hF1) (by rw [← c1.1, oI]) ?_
  intro τ2 hI2
  refine sg_kw6 v hv hI2.1 ?_
  intro τ3 y3 hB3 hF3 _ _ _ _
  refine im_w1 ht hb ?_ 16 0 τ3 rfl (hI2.fr hB3 hF3)
  intro σ4 w hw hI4
  refine sg_kw43 w hw hI4.1 ?_
  intro τ7 y7 hB7 hF7 _ _ _ _
  refine im_w2 ht hb ?_ 400 0 τ7 rfl (hI4.fr hB7 hF7)
  intro σ8 w8 hw8 hI8
  refine sg_kw70 w8 hw8 hI8.1 ?_
  intro τ9 y9 hB9 hF9 _ _ _ _
  exact ⟨rfl, hI8.fr hB9 hF9⟩
abbrev FIm : List (Nat × Nat) := [(93, 0), (93, 63), (93, 64), (93, 65)]
abbrev qIm (σ : pm_S) (t : Int) : Option Value → pm_S → Prop := fun r τ => (∃ v : Int32, r = some (.int v)) ∧ ((an_GB pm_B τ ∧ FQ FIm σ τ ∧ cI τ 64 = cI σ 64 ∧ r = some (.int (Int32.ofInt 0)) ∧ t = 0 ∧ cI σ 64 = 0) ∨ ((t = 1 ∨ cI σ 64 = 1) ∧ ∃ σ1, an_GB pm_B σ1 ∧ FQ FIm σ σ1 ∧ imI σ1 t τ 1431 ∧ r = some (.int (Int32.ofInt 1))))
theorem im_main {σ σ1 : pm_S} {t : Int} (ht : t = 0 ∨ t = 1) (h64 : t = 1 ∨ cI σ 64 = 1) (hb : bdI σ1 t) (hB1 : an_GB pm_B σ1) (hF1 : FQ FIm σ σ1) (hI : imI σ1 t σ1 0) (v1 v2 : Value) (hv1 : v1.category = 1) (hv2 : v2.category = 1) {w : Int32} (hw : w = σ1.1 93 1) : Ok 245 21 23 [.ref 93, v1, v2] [.int w, .ref 93, .ref 93] σ1 (qIm σ t) := by
  refine im_fld (m := 0) rfl rfl rfl ht hb (by decide) rfl (fun _ _ => rfl) rfl (by decide) hI hw ?_
  intro τ2 hI2
  refine sg_im25 v1 v2 hv1 hv2 hI2.1 ?_
  intro τ3 y3 a3 b3 ha3 hb3 hB3 hF3 _ _ _ c3
  refine im_fld (m := 1) rfl rfl rfl ht hb (by decide) rfl (fun _ _ => rfl) rfl (by decide) (hI2.fr hB3 hF3) (by rw [← c3.1, oI]) ?_
  intro τ4 hI4
  refine sg_im31 a3 b3 ha3 hb3 hI4.1 ?_
  intro τ5 y5 a5 ha5 hB5 hF5 _ _ _ _
  refine im_i1 ht hb ?_ 10 0 τ5 a5 ha5 rfl (hI4.fr hB5 hF5)
  intro τ6 a6 b6 ha6 hb6 hI6
  refine sg_im48 a6 b6 ha6 hb6 hI6.1 ?_
  intro τ7 y7 a7 ha7 hB7 hF7 _ _ _ _
  refine im_i2 ht hb ?_ 100 0 τ7 a7 ha7 rfl (hI6.fr hB7 hF7)
  intro τ8 a8 b8 ha8 hb8 hI8
  refine sg_im65 a8 b8 ha8 hb8 hI8.1 ?_
  intro τ9 y9 a9 ha9 hB9 hF9 _ _ _ _
  refine im_i3 ht hb ?_ 80 0 τ9 a9 ha9 rfl (hI8.fr hB9 hF9)
  intro τa aa ba haa hba hIa
  refine sg_im82 aa ba haa hba hIa.1 ?_
  intro τb yb ab bb hab hbb hBb hFb _ _ _ cb
  refine im_fld (m := 192) rfl rfl rfl ht hb (by decide) rfl (fun _ _ => rfl) rfl (by decide) (hIa.fr hBb hFb) (by rw [← cb.1, oI]) ?_
  intro τc hIc
  refine sg_im88 ab bb hab hbb hIc.1 ?_
  intro τd yd ad had hBd hFd _ _ _ _
  refine im_i4 ht hb ?_ 10 0 τd ad had rfl (hIc.fr hBd hFd)
  intro τe ae be hae hbe hIe
  refine sg_im145 ae be hae hbe hIe.1 ?_
  intro τf yf af bf haf hbf hBf hFf _ _ _ cf
  refine im_fld (m := 243) rfl rfl rfl ht hb (by decide) rfl (fun _ _ => rfl) rfl (by decide) (hIe.fr hBf hFf) (by rw [← cf.1, oI]) ?_
  intro τg hIg
  refine sg_im151 af bf haf hbf hIg.1 ?_
  intro τh yh ah bh hah hbh hBh hFh _ _ _ ch
  refine im_fld (m := 244) rfl rfl rfl ht hb (by decide) rfl (fun _ _ => rfl) rfl (by decide) (hIg.fr hBh hFh) (by rw [← ch.1, oI]) ?_
  intro τi hIi
  refine sg_im157 ah bh hah hbh hIi.1 ?_
  intro τj yj aj bj haj hbj hBj hFj _ _ _ cj
  refine im_fld (m := 245) rfl rfl rfl ht hb (by decide) rfl (fun _ _ => rfl) rfl (by decide) (hIi.fr hBj hFj) (by rw [← cj.1, oI]) ?_
  intro τk hIk
  refine sg_im163 aj bj haj hbj hIk.1 ?_
  intro τl yl al hal hBl hFl _ _ _ _
  refine im_i5 ht hb ?_ 4 0 τl al hal rfl (hIk.fr hBl hFl)
  intro τm am bm ham hbm hIm
  refine sg_im180 am bm ham hbm hIm.1 ?_
  intro τn yn an bn han hbn hBn hFn _ _ _ _
  refine Ok.cv rfl rfl rfl rfl rfl rfl rfl ?_
  refine (m_keepsDebts ht hb (hIm.fr hBn hFn)).use (by decide) (fun r τo q => ?_)
  obtain ⟨rfl, hIo⟩ := q
  refine sg_im182 an bn han hbn hIo.1 ?_
  intro τp yp ap bp hap hbp hBp hFp _ _ _ _
  refine Ok.cv rfl rfl rfl rfl rfl rfl rfl ?_
  refine (m_keepsLaw ht hb (hIo.fr hBp hFp)).use (by decide) (fun r τq q => ?_)
  obtain ⟨rfl, hIq⟩ := q
  refine sg_im184 ap bp hap hbp hIq.1 ?_
  intro τr yr hBr hFr _ _ _ _
  exact ⟨⟨_, rfl⟩, Or.inr ⟨h64, σ1, hB1, hF1, hIq.fr hBr hFr, rfl⟩⟩
/-- what the image holds is within bounds, if there is one -/
def imB (σ : pm_S) : Prop := cI σ 64 = 1 → ∀ i, i < 1431 → (an_bd pm_B (qsI i).1 (qsI i).2).1 ≤ (σ.1 133 i).toInt ∧ (σ.1 133 i).toInt ≤ (an_bd pm_B (qsI i).1 (qsI i).2).2
theorem m_image {σ : pm_S} (hB : an_GB pm_B σ) (hG : imB σ) (t : Int) (ht : t = 0 ∨ t = 1) : Sp 245 21 [.ref 93, .int (Int32.ofInt t)] σ (qIm σ t) := by
  have g64 : 0 ≤ cI σ 64 ∧ cI σ 64 ≤ 1 := hB 93 64 (by decide)
  refine Sp.at rfl rfl ?_
  refine sg_im0 t (cI σ 64) _ rfl hB ⟨by omega, g64, trivial⟩ ⟨rfl, trivial⟩ ?_ ?_ ?_
  · intro τ y v2 hv2 hB1 hF1 f _ _ c
    have t1 : t = 1 := by omega
    subst t1
    refine im_main (Or.inr rfl) (Or.inl rfl) ?_ hB1 hF1 ?_ _ v2 rfl hv2 (by rw [← c.2.1, oI])
    · intro i hi
      have : vI τ 1 i = qsV τ i := if_pos rfl
      rw [this]
      exact hB1 _ _ (qs_len i hi)
    · exact ⟨hB1, c.2.2.2.2.1, c.2.2.1, c.2.2.2.1, fun i _ => ⟨fun z => absurd z (by omega), fun _ => ⟨rfl, rfl⟩⟩, fun _ _ _ _ _ => rfl⟩
  · intro τ y v2 hv2 hB1 hF1 f _ _ c
    have t0 : t = 0 := by omega
    subst t0
    have e64 : cI σ 64 = 1 := by omega
    refine im_main (Or.inl rfl) (Or.inr e64) ?_ hB1 hF1 ?_ _ v2 rfl hv2 (by rw [← c.2.1, oI])
    · intro i hi
      have : vI τ 0 i = τ.1 133 i := if_neg (by decide)
      rw [this, hF1 133 i rfl]
      exact hG e64 i hi
    · exact ⟨hB1, c.2.2.2.2.1, c.2.2.1, c.2.2.2.1, fun i _ => ⟨fun z => absurd z (by omega), fun _ => ⟨rfl, rfl⟩⟩, fun _ _ _ _ _ => rfl⟩
  · intro τ y hB1 hF1 f _ _ c
    exact ⟨⟨_, rfl⟩, Or.inl ⟨hB1, hF1, c.2.1, rfl, by omega, by omega⟩⟩
