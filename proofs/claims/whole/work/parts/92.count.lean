/-! ===== count ===== -/
theorem c_count {x : Int32} {g : fp_G} {P : Int32 → Int32 → fp_G → Prop} {n : Nat} (hn : n ≤ 60) (h5 : g 37 5 = nI n) (q0 : g 67 15 = g 0 9) (q1 : g 67 12 = g 6 3) (q2 : g 67 13 = g 6 9) (q3 : g 67 26 = g 18 4) (q4 : g 67 27 = g 18 7) (q5 : g 67 42 = g 37 5) (q10 : g 67 51 = g 29 1) (q17 : g 67 73 = g 61 6) (q18 : g 67 52 = g 29 6) (e1 : g 68 = g 1) (e95 : g 95 = g 44) (e102 : g 102 = g 50) (ok : ∀ r, P r r g) : w_X8_count x g (fun r g1 => w_X9_count x g1 (fun r2 g2 => P r r2 g2)) := by
  have hk5 : g 67 42 = nI n := by rw [q5, h5]
  unfold w_X8_count
  refine is (fun c => ?_) (fun c0 => ?_)
  · subst c
    unfold w_X9_count
    refine e_isIn (l := 11) (h := 16) rfl rfl ?_
    rw [show bi (11 ≤ (0 : Int32).toInt ∧ (0 : Int32).toInt ≤ 16) = 0 from by decide]
    refine it rfl (it rfl ?_)
    show P _ (g 67 15) g
    rw [q0]
    exact ok _
  refine is (fun c => ?_) (fun c1 => ?_)
  · subst c
    unfold w_X9_count
    refine e_isIn (l := 11) (h := 16) rfl rfl ?_
    rw [show bi (11 ≤ (1 : Int32).toInt ∧ (1 : Int32).toInt ≤ 16) = 0 from by decide]
    refine it rfl (ie (by decide) (it rfl ?_))
    show P _ (g 67 12) g
    rw [q1]
    exact ok _
  refine is (fun c => ?_) (fun c2 => ?_)
  · subst c
    unfold w_X9_count
    refine e_isIn (l := 11) (h := 16) rfl rfl ?_
    rw [show bi (11 ≤ (2 : Int32).toInt ∧ (2 : Int32).toInt ≤ 16) = 0 from by decide]
    refine it rfl (ie (by decide) (ie (by decide) (it rfl ?_)))
    show P _ (g 67 13) g
    rw [q2]
    exact ok _
  refine is (fun c => ?_) (fun c3 => ?_)
  · subst c
    unfold w_X9_count
    refine e_isIn (l := 11) (h := 16) rfl rfl ?_
    rw [show bi (11 ≤ (3 : Int32).toInt ∧ (3 : Int32).toInt ≤ 16) = 0 from by decide]
    refine it rfl (ie (by decide) (ie (by decide) (ie (by decide) (it rfl ?_))))
    show P _ (g 67 26) g
    rw [q3]
    exact ok _
  refine is (fun c => ?_) (fun c4 => ?_)
  · subst c
    unfold w_X9_count
    refine e_isIn (l := 11) (h := 16) rfl rfl ?_
    rw [show bi (11 ≤ (4 : Int32).toInt ∧ (4 : Int32).toInt ≤ 16) = 0 from by decide]
    refine it rfl (ie (by decide) (ie (by decide) (ie (by decide) (ie (by decide) (it rfl ?_)))))
    show P _ (g 67 27) g
    rw [q4]
    exact ok _
  refine is (fun c => ?_) (fun c5 => ?_)
  · subst c
    unfold w_X9_count
    refine e_isIn (l := 11) (h := 16) rfl rfl ?_
    rw [show bi (11 ≤ (5 : Int32).toInt ∧ (5 : Int32).toInt ≤ 16) = 0 from by decide]
    refine it rfl (ie (by decide) (ie (by decide) (ie (by decide) (ie (by decide) (ie (by decide) (it rfl ?_))))))
    show P _ (g 67 42) g
    rw [q5]
    exact ok _
  refine is (fun c => ?_) (fun c6 => ?_)
  · subst c
    rw [h5]
    refine ⟨n + 1, l_X0_howMany_5 hn ?_ n 0 (by omega)⟩
    unfold w_X9_count
    refine e_isIn (l := 11) (h := 16) rfl rfl ?_
    rw [show bi (11 ≤ (6 : Int32).toInt ∧ (6 : Int32).toInt ≤ 16) = 0 from by decide]
    refine it rfl (ie (by decide) (ie (by decide) (ie (by decide) (ie (by decide) (ie (by decide) (ie (by decide) (it rfl ⟨n + 1, l_X9_count_148 hn hk5 ?_ n 0 (by omega)⟩)))))))
    rw [show (6 : Int32) - 4 = 2 from by decide, e95]
    exact ok _
  refine is (fun c => ?_) (fun c7 => ?_)
  · subst c
    rw [h5]
    refine ⟨n + 1, l_X0_howMany_5 hn ?_ n 0 (by omega)⟩
    unfold w_X9_count
    refine e_isIn (l := 11) (h := 16) rfl rfl ?_
    rw [show bi (11 ≤ (7 : Int32).toInt ∧ (7 : Int32).toInt ≤ 16) = 0 from by decide]
    refine it rfl (ie (by decide) (ie (by decide) (ie (by decide) (ie (by decide) (ie (by decide) (ie (by decide) (ie (by decide) (it rfl ⟨n + 1, l_X9_count_148 hn hk5 ?_ n 0 (by omega)⟩))))))))
    rw [show (7 : Int32) - 4 = 3 from by decide, e95]
    exact ok _
  refine is (fun c => ?_) (fun c8 => ?_)
  · subst c
    rw [h5]
    refine ⟨n + 1, l_X0_howMany_5 hn ?_ n 0 (by omega)⟩
    unfold w_X9_count
    refine e_isIn (l := 11) (h := 16) rfl rfl ?_
    rw [show bi (11 ≤ (8 : Int32).toInt ∧ (8 : Int32).toInt ≤ 16) = 0 from by decide]
    refine it rfl (ie (by decide) (ie (by decide) (ie (by decide) (ie (by decide) (ie (by decide) (ie (by decide) (ie (by decide) (ie (by decide) (it rfl ⟨n + 1, l_X9_count_148 hn hk5 ?_ n 0 (by omega)⟩)))))))))
    rw [show (8 : Int32) - 4 = 4 from by decide, e95]
    exact ok _
  refine is (fun c => ?_) (fun c9 => ?_)
  · subst c
    rw [h5]
    refine ⟨n + 1, l_X0_howManySpoilt_4 hn ?_ n 0 (by omega)⟩
    unfold w_X9_count
    refine e_isIn (l := 11) (h := 16) rfl rfl ?_
    rw [show bi (11 ≤ (9 : Int32).toInt ∧ (9 : Int32).toInt ≤ 16) = 0 from by decide]
    refine it rfl (ie (by decide) (ie (by decide) (ie (by decide) (ie (by decide) (ie (by decide) (ie (by decide) (ie (by decide) (ie (by decide) (ie (by decide) (it rfl ⟨n + 1, l_X9_count_186 hn hk5 ?_ n 0 (by omega)⟩))))))))))
    rw [e102]
    exact ok _
  refine is (fun c => ?_) (fun c10 => ?_)
  · subst c
    unfold w_X9_count
    refine e_isIn (l := 11) (h := 16) rfl rfl ?_
    rw [show bi (11 ≤ (10 : Int32).toInt ∧ (10 : Int32).toInt ≤ 16) = 0 from by decide]
    refine it rfl (ie (by decide) (ie (by decide) (ie (by decide) (ie (by decide) (ie (by decide) (ie (by decide) (ie (by decide) (ie (by decide) (ie (by decide) (ie (by decide) (it rfl ?_)))))))))))
    show P _ (g 67 51) g
    rw [q10]
    exact ok _
  refine is (fun c => ?_) (fun c11 => ?_)
  · subst c
    refine rd_e (k := 1) (by decide) (by decide) (by decide) ?_
    unfold w_X9_count
    refine e_isIn (l := 11) (h := 16) rfl rfl ?_
    rw [show bi (11 ≤ (11 : Int32).toInt ∧ (11 : Int32).toInt ≤ 16) = 1 from by decide]
    refine ie (by decide) (rd_e (k := 1) (by decide) (by decide) (by decide) ?_)
    rw [e1]
    exact ok _
  refine is (fun c => ?_) (fun c12 => ?_)
  · subst c
    refine rd_e (k := 2) (by decide) (by decide) (by decide) ?_
    unfold w_X9_count
    refine e_isIn (l := 11) (h := 16) rfl rfl ?_
    rw [show bi (11 ≤ (12 : Int32).toInt ∧ (12 : Int32).toInt ≤ 16) = 1 from by decide]
    refine ie (by decide) (rd_e (k := 2) (by decide) (by decide) (by decide) ?_)
    rw [e1]
    exact ok _
  refine is (fun c => ?_) (fun c13 => ?_)
  · subst c
    refine rd_e (k := 3) (by decide) (by decide) (by decide) ?_
    unfold w_X9_count
    refine e_isIn (l := 11) (h := 16) rfl rfl ?_
    rw [show bi (11 ≤ (13 : Int32).toInt ∧ (13 : Int32).toInt ≤ 16) = 1 from by decide]
    refine ie (by decide) (rd_e (k := 3) (by decide) (by decide) (by decide) ?_)
    rw [e1]
    exact ok _
  refine is (fun c => ?_) (fun c14 => ?_)
  · subst c
    refine rd_e (k := 4) (by decide) (by decide) (by decide) ?_
    unfold w_X9_count
    refine e_isIn (l := 11) (h := 16) rfl rfl ?_
    rw [show bi (11 ≤ (14 : Int32).toInt ∧ (14 : Int32).toInt ≤ 16) = 1 from by decide]
    refine ie (by decide) (rd_e (k := 4) (by decide) (by decide) (by decide) ?_)
    rw [e1]
    exact ok _
  refine is (fun c => ?_) (fun c15 => ?_)
  · subst c
    refine rd_e (k := 5) (by decide) (by decide) (by decide) ?_
    unfold w_X9_count
    refine e_isIn (l := 11) (h := 16) rfl rfl ?_
    rw [show bi (11 ≤ (15 : Int32).toInt ∧ (15 : Int32).toInt ≤ 16) = 1 from by decide]
    refine ie (by decide) (rd_e (k := 5) (by decide) (by decide) (by decide) ?_)
    rw [e1]
    exact ok _
  refine is (fun c => ?_) (fun c16 => ?_)
  · subst c
    refine rd_e (k := 6) (by decide) (by decide) (by decide) ?_
    unfold w_X9_count
    refine e_isIn (l := 11) (h := 16) rfl rfl ?_
    rw [show bi (11 ≤ (16 : Int32).toInt ∧ (16 : Int32).toInt ≤ 16) = 1 from by decide]
    refine ie (by decide) (rd_e (k := 6) (by decide) (by decide) (by decide) ?_)
    rw [e1]
    exact ok _
  refine is (fun c => ?_) (fun c17 => ?_)
  · subst c
    unfold w_X9_count
    refine e_isIn (l := 11) (h := 16) rfl rfl ?_
    rw [show bi (11 ≤ (17 : Int32).toInt ∧ (17 : Int32).toInt ≤ 16) = 0 from by decide]
    refine it rfl (ie (by decide) (ie (by decide) (ie (by decide) (ie (by decide) (ie (by decide) (ie (by decide) (ie (by decide) (ie (by decide) (ie (by decide) (ie (by decide) (ie (by decide) (ie (by decide) (ie (by decide) (ie (by decide) (ie (by decide) (ie (by decide) (ie (by decide) (it rfl ?_))))))))))))))))))
    show P _ (g 67 73) g
    rw [q17]
    exact ok _
  refine is (fun c => ?_) (fun c18 => ?_)
  · subst c
    unfold w_X9_count
    refine e_isIn (l := 11) (h := 16) rfl rfl ?_
    rw [show bi (11 ≤ (18 : Int32).toInt ∧ (18 : Int32).toInt ≤ 16) = 0 from by decide]
    refine it rfl (ie (by decide) (ie (by decide) (ie (by decide) (ie (by decide) (ie (by decide) (ie (by decide) (ie (by decide) (ie (by decide) (ie (by decide) (ie (by decide) (ie (by decide) (ie (by decide) (ie (by decide) (ie (by decide) (ie (by decide) (ie (by decide) (ie (by decide) (ie (by decide) (it rfl ?_)))))))))))))))))))
    show P _ (g 67 52) g
    rw [q18]
    exact ok _
  unfold w_X9_count
  refine e_isIn (l := 11) (h := 16) rfl rfl ?_
  rw [bi_f (fun z => ?_)]
  · exact it rfl (ie c0 (ie c1 (ie c2 (ie c3 (ie c4 (ie c5 (ie c6 (ie c7 (ie c8 (ie c9 (ie c10 (ie c11 (ie c12 (ie c13 (ie c14 (ie c15 (ie c16 (ie c17 (ie c18 (ok _))))))))))))))))))))
  · rcases (show x.toInt = 11 ∨ x.toInt = 12 ∨ x.toInt = 13 ∨ x.toInt = 14 ∨ x.toInt = 15 ∨ x.toInt = 16 by omega) with h | h | h | h | h | h
    · exact c11 (by rw [eq_I]; exact h)
    · exact c12 (by rw [eq_I]; exact h)
    · exact c13 (by rw [eq_I]; exact h)
    · exact c14 (by rw [eq_I]; exact h)
    · exact c15 (by rw [eq_I]; exact h)
    · exact c16 (by rw [eq_I]; exact h)
