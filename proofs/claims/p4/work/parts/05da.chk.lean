theorem pm_pcs {α : Type} (f : α → Bool) (l : List α) (a n : Nat) (h1 : ((l.drop a).take n).all f = true) (h2 : (l.drop (a + n)).all f = true) : (l.drop a).all f = true := by
  rw [← List.drop_drop] at h2
  rw [← List.take_append_drop n (l.drop a), List.all_append, h1, h2]
  rfl
theorem pm_pce {α : Type} (f : α → Bool) (l : List α) (a : Nat) (h : l.length ≤ a) : (l.drop a).all f = true := by
  rw [List.drop_eq_nil_of_le h]
  rfl
/-- a method's head: its class -/
def pm_chkh (M : pm_M) : Bool := decide (M.1.cls = pm_cn.getD M.2.2.2.2.1 "") && decide (M.2.2.2.2.1 < 19) && decide (plainName M.1.cls = true)
theorem pm_chkj {M : pm_M} (h : (M.2.2.2.2.2.zipIdx).all (fun q => pm_chk1 M q.2 q.1) = true) (h2 : pm_chkh M = true) : pm_chk M = true := by
  unfold pm_chk
  unfold pm_chkh at h2
  rw [h]
  simpa using h2

