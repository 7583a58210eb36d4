/-! Both constructors, run by the kernel. -/
def rd_wr0 : rd_Wr := [(64, 48, 1, 1), (62, 0, 4, -1), (56, 10, 1, 0), (56, 9, 1, 0), (56, 8, 1, 0), (57, 0, 1, 0), (51, 0, 1, 0), (49, 1, 1, 0), (33, 3, 1, 0), (34, 0, 1, 40), (34, 3, 1, 0), (31, 7, 1, 0), (31, 6, 1, 0), (28, 4, 1, 0), (28, 3, 1, 0), (28, 2, 1, 0), (15, 0, 1, 80), (15, 3, 1, 0), (9, 1, 1, 0), (1, 0, 1, 0)]
def rd_vs0 : rd_Lv := [some (.ref 100001), some (.ref 0), some (.ref 64), some (.int 0)]
def rd_q0 : rd_Cf := (0, [some (.ref 100001), none, none, none], [], [], [], 0, 0)
def rd_same : Option rd_Cf → Bool
  | some (i, vs, st, S, w, _, _) => decide (i = 10) && decide (vs = rd_vs0) && decide (st = []) && decide (S = rd_S0) && decide (w = rd_wr0)
  | none => false
theorem rd_made1 : rd_same (rd_av 1000 194 rd_q0) = true := by decide +kernel
theorem rd_made0 : ∃ cu su, rd_av 1000 194 rd_q0 = some (10, rd_vs0, [], rd_S0, rd_wr0, cu, su) := by
  have h := rd_made1
  cases hq : rd_av 1000 194 rd_q0 with
  | none => rw [hq] at h; cases h
  | some q =>
    obtain ⟨i, vs, st, S, w, cu, su⟩ := q
    rw [hq] at h
    simp only [rd_same, Bool.and_eq_true, decide_eq_true_eq] at h
    obtain ⟨⟨⟨⟨rfl, rfl⟩, rfl⟩, rfl⟩, rfl⟩ := h
    exact ⟨cu, su, rfl⟩
