/-! ===== the law's loop, out of one step a call ===== -/
theorem rd_eq {f : Nat → Int32} {n : Nat} {i : Int32} {P : Int32 → Prop} (h : vp_in i n) : fp_rd f n i P = P (f (tn i)) := propext ⟨fun z => z.2, fun z => ⟨h, z⟩⟩
theorem j_I {α : Sort _} {J : α} {P : α → Prop} (h : P J) : fp_j J P := h
/-- class and reference, one call on each: the same answer, and R again -/
def fp_sim (R : fp_G → Prop) (a b : fp_G → (Int32 → fp_G → Prop) → Prop) : Prop := ∀ (g : fp_G) (P : Int32 → Int32 → fp_G → Prop), R g → (∀ r g2, R g2 → P r r g2) → a g (fun r g1 => b g1 (fun r2 g2 => P r r2 g2))
set_option maxRecDepth 100000 in
set_option maxHeartbeats 4000000 in
theorem law_loop {R : fp_G → Prop}
    (h_office : ∀ (x0 : Int32) (x1 : Int32), x1 = 0 ∨ x1 = 1 → fp_sim R (w_X8_office x0 x1) (w_X9_office x0 x1))
    (h_staff : ∀ (x0 : Int32) (x1 : Int32) (x2 : Int32), x2 = 0 ∨ x2 = 1 → fp_sim R (w_X8_staff x0 x1 x2) (w_X9_staff x0 x1 x2))
    (h_way : ∀ (x0 : Int32) (x1 : Int32) (x2 : Int32) (x3 : Int32) (x4 : Int32), fp_sim R (w_X8_way x0 x1 x2 x3 x4) (w_X9_way x0 x1 x2 x3 x4))
    (h_shut : ∀ (x0 : Int32) (x1 : Int32) (x2 : Int32), fp_sim R (w_X8_shut x0 x1 x2) (w_X9_shut x0 x1 x2))
    (h_far : ∀ (x0 : Int32) (x1 : Int32), fp_sim R (w_X8_far x0 x1) (w_X9_far x0 x1))
    (h_late : ∀ (x0 : Int32), fp_sim R (w_X8_late x0) (w_X9_late x0))
    (h_hours : ∀ (x0 : Int32), fp_sim R (w_X8_hours x0) (w_X9_hours x0))
    (h_move : ∀ (x0 : Int32) (x1 : Int32) (x2 : Int32), fp_sim R (w_X8_move x0 x1 x2) (w_X9_move x0 x1 x2))
    (h_is : ∀ (x0 : Int32) (x1 : Int32), fp_sim R (w_X8_is x0 x1) (w_X9_is x0 x1))
    (h_list : ∀ (x0 : Int32) (x1 : Int32) (x2 : Int32), fp_sim R (w_X8_list x0 x1 x2) (w_X9_list x0 x1 x2))
    (h_man : ∀ (x0 : Int32) (x1 : Int32), fp_sim R (w_X8_man x0 x1) (w_X9_man x0 x1))
    (h_state : ∀ (x0 : Int32) (x1 : Int32) (x2 : Int32), fp_sim R (w_X8_state x0 x1 x2) (w_X9_state x0 x1 x2))
    (h_stateOf : ∀ (x0 : Int32) (x1 : Int32) (x2 : Int32), fp_sim R (w_X8_stateOf x0 x1 x2) (w_X9_stateOf x0 x1 x2))
    (h_manAt : ∀ (x0 : Int32), fp_sim R (w_X8_manAt x0) (w_X9_manAt x0))
    (h_mail : ∀ (x0 : Int32) (x1 : Int32) (x2 : Int32) (x3 : Int32), fp_sim R (w_X8_mail x0 x1 x2 x3) (w_X9_mail x0 x1 x2 x3))
    (h_feed : ∀ (v : Int32) (w : Int64), fp_sim R (w_X8_feed v w) (w_X9_feed v w))
    (h_order : ∀ (x0 : Int32), fp_sim R (w_X8_order x0) (w_X9_order x0))
    (h_holds : ∀ (x0 : Int32) (x1 : Int32), fp_sim R (w_X8_holds x0 x1) (w_X9_holds x0 x1))
    (h_keep : ∀ (x0 : Int32), fp_sim R (w_X8_keep x0) (w_X9_keep x0))
    (h_mailOf : ∀ (x0 : Int32) (x1 : Int32), fp_sim R (w_X8_mailOf x0 x1) (w_X9_mailOf x0 x1))
    (h_goal : ∀ (x0 : Int32), fp_sim R (w_X8_goal x0) (w_X9_goal x0))
    (h_next : ∀ (x0 : Int32), fp_sim R (w_X8_next x0) (w_X9_next x0))
    (h_trace : ∀ (x0 : Int32) (x1 : Int32), fp_sim R (w_X8_trace x0 x1) (w_X9_trace x0 x1))
    (h_fro : ∀ (x0 : Int32), fp_sim R (w_X8_fro x0) (w_X9_fro x0))
    (h_after : ∀ (x0 : Int32) (x1 : Int32), fp_sim R (w_X8_after x0 x1) (w_X9_after x0 x1))
    (h_paid : ∀ (x0 : Int32), fp_sim R (w_X8_paid x0) (w_X9_paid x0))
    (h_cover : ∀ (x0 : Int32) (x1 : Int32), fp_sim R (w_X8_cover x0 x1) (w_X9_cover x0 x1))
    (h_sure : ∀ (x0 : Int32) (x1 : Int32), fp_sim R (w_X8_sure x0 x1) (w_X9_sure x0 x1))
    (h_sack : ∀ (x0 : Int32) (x1 : Int32) (x2 : Int32), fp_sim R (w_X8_sack x0 x1 x2) (w_X9_sack x0 x1 x2))
    (h_best : ∀ (x0 : Int32), fp_sim R (w_X8_best x0) (w_X9_best x0))
    (h_put : ∀ (x0 : Int32), fp_sim R (w_X8_put x0) (w_X9_put x0))
    (h_judge : ∀ (x0 : Int32), fp_sim R (w_X8_judge x0) (w_X9_judge x0))
    (h_waiting : ∀ (x0 : Int32), fp_sim R (w_X8_waiting x0) (w_X9_waiting x0))
    (h_count : ∀ (x0 : Int32), fp_sim R (w_X8_count x0) (w_X9_count x0))
    {N : Nat} (hN : N ≤ 3072) (xs : Nat → Int32) : ∀ (n k : Nat) (g : fp_G), N < 6 * (k + n) → 6 * k ≤ 3072 → R g → w_L_law_18 (n + 1) N xs (nI (6 * k)) g (fun r _ => r = 1) := by
  intro n
  induction n with
  | zero =>
    intro k g h1 h2 hR
    rw [w_L_law_18]
    refine it ?_ rfl
    rw [lt_I, show Int32.ofNat N = nI N from rfl, nI_I (by omega), show (6 : Int32) = nI 6 from rfl, Int32.toInt_sub, nI_I (by omega), nI_I (by omega), Int.bmod_eq_of_le (by omega) (by omega)]
    omega
  | succ n ih =>
    intro k g h1 h2 hR
    rw [w_L_law_18]
    refine is (fun _ => rfl) (fun c => ?_)
    have c : 6 * k + 6 ≤ N := by
      rw [lt_I, show Int32.ofNat N = nI N from rfl, nI_I (by omega), show (6 : Int32) = nI 6 from rfl, Int32.toInt_sub, nI_I (by omega), nI_I (by omega), Int.bmod_eq_of_le (by omega) (by omega)] at c
      omega
    have i0 : vp_in (nI (6 * k)) N := vp_in_nI (by omega) (by omega)
    have i1 : vp_in (nI (6 * k) + 1) N := by
      rw [show (1 : Int32) = nI 1 from rfl, nI_add]
      exact vp_in_nI (by omega) (by omega)
    have i2 : vp_in (nI (6 * k) + 2) N := by
      rw [show (2 : Int32) = nI 2 from rfl, nI_add]
      exact vp_in_nI (by omega) (by omega)
    have i3 : vp_in (nI (6 * k) + 3) N := by
      rw [show (3 : Int32) = nI 3 from rfl, nI_add]
      exact vp_in_nI (by omega) (by omega)
    have i4 : vp_in (nI (6 * k) + 4) N := by
      rw [show (4 : Int32) = nI 4 from rfl, nI_add]
      exact vp_in_nI (by omega) (by omega)
    have i5 : vp_in (nI (6 * k) + 5) N := by
      rw [show (5 : Int32) = nI 5 from rfl, nI_add]
      exact vp_in_nI (by omega) (by omega)
    have ihk : ∀ g, R g → w_L_law_18 (n + 1) N xs (nI (6 * k) + 6) g (fun r _ => r = 1) := fun g hg => by
      rw [show (6 : Int32) = nI 6 from rfl, nI_add]
      exact ih (k + 1) g (by omega) (by omega) hg
    rw [rd_eq i0]
    refine j_I ?_
    dsimp only
    refine is (fun _ => ?_) (fun _ => ?_)
    · simp only [rd_eq i1, rd_eq i2, fp_j]
      by_cases hz : xs (tn (nI (6 * k) + 2)) = 0
      · simp only [if_pos hz]
        exact h_office _ _ (Or.inl rfl) g (P := fun r r2 g2 => if r = r2 then w_L_law_18 (n + 1) N xs (nI (6 * k) + 6) g2 (fun r _ => r = 1) else (0 : Int32) = 1) hR (fun r g2 hg => it rfl (ihk g2 hg))
      · simp only [if_neg hz]
        exact h_office _ _ (Or.inr rfl) g (P := fun r r2 g2 => if r = r2 then w_L_law_18 (n + 1) N xs (nI (6 * k) + 6) g2 (fun r _ => r = 1) else (0 : Int32) = 1) hR (fun r g2 hg => it rfl (ihk g2 hg))
    refine is (fun _ => ?_) (fun _ => ?_)
    · simp only [rd_eq i1, rd_eq i2, rd_eq i3, fp_j]
      by_cases hz : xs (tn (nI (6 * k) + 3)) = 0
      · simp only [if_pos hz]
        exact h_staff _ _ _ (Or.inl rfl) g (P := fun r r2 g2 => if r = r2 then w_L_law_18 (n + 1) N xs (nI (6 * k) + 6) g2 (fun r _ => r = 1) else (0 : Int32) = 1) hR (fun r g2 hg => it rfl (ihk g2 hg))
      · simp only [if_neg hz]
        exact h_staff _ _ _ (Or.inr rfl) g (P := fun r r2 g2 => if r = r2 then w_L_law_18 (n + 1) N xs (nI (6 * k) + 6) g2 (fun r _ => r = 1) else (0 : Int32) = 1) hR (fun r g2 hg => it rfl (ihk g2 hg))
    refine is (fun _ => ?_) (fun _ => ?_)
    · simp only [rd_eq i1, rd_eq i2, rd_eq i3, rd_eq i4, rd_eq i5]
      exact h_way _ _ _ _ _ g (P := fun r r2 g2 => if r = r2 then w_L_law_18 (n + 1) N xs (nI (6 * k) + 6) g2 (fun r _ => r = 1) else (0 : Int32) = 1) hR (fun r g2 hg => it rfl (ihk g2 hg))
    refine is (fun _ => ?_) (fun _ => ?_)
    · simp only [rd_eq i1, rd_eq i2, rd_eq i3]
      exact h_shut _ _ _ g (P := fun r r2 g2 => if r = r2 then w_L_law_18 (n + 1) N xs (nI (6 * k) + 6) g2 (fun r _ => r = 1) else (0 : Int32) = 1) hR (fun r g2 hg => it rfl (ihk g2 hg))
    refine is (fun _ => ?_) (fun _ => ?_)
    · simp only [rd_eq i1, rd_eq i2]
      exact h_far _ _ g (P := fun r r2 g2 => if r = r2 then w_L_law_18 (n + 1) N xs (nI (6 * k) + 6) g2 (fun r _ => r = 1) else (0 : Int32) = 1) hR (fun r g2 hg => it rfl (ihk g2 hg))
    refine is (fun _ => ?_) (fun _ => ?_)
    · simp only [rd_eq i1]
      exact h_late _ g (P := fun r r2 g2 => if r = r2 then w_L_law_18 (n + 1) N xs (nI (6 * k) + 6) g2 (fun r _ => r = 1) else (0 : Int32) = 1) hR (fun r g2 hg => it rfl (ihk g2 hg))
    refine is (fun _ => ?_) (fun _ => ?_)
    · simp only [rd_eq i1]
      exact h_hours _ g (P := fun r r2 g2 => if r = r2 then w_L_law_18 (n + 1) N xs (nI (6 * k) + 6) g2 (fun r _ => r = 1) else (0 : Int32) = 1) hR (fun r g2 hg => it rfl (ihk g2 hg))
    refine is (fun _ => ?_) (fun _ => ?_)
    · simp only [rd_eq i1, rd_eq i2, rd_eq i3]
      exact h_move _ _ _ g (P := fun r r2 g2 => if r = r2 then w_L_law_18 (n + 1) N xs (nI (6 * k) + 6) g2 (fun r _ => r = 1) else (0 : Int32) = 1) hR (fun r g2 hg => it rfl (ihk g2 hg))
    refine is (fun _ => ?_) (fun _ => ?_)
    · simp only [rd_eq i1, rd_eq i2]
      exact h_is _ _ g (P := fun r r2 g2 => if r = r2 then w_L_law_18 (n + 1) N xs (nI (6 * k) + 6) g2 (fun r _ => r = 1) else (0 : Int32) = 1) hR (fun r g2 hg => it rfl (ihk g2 hg))
    refine is (fun _ => ?_) (fun _ => ?_)
    · simp only [rd_eq i1, rd_eq i2, rd_eq i3]
      exact h_list _ _ _ g (P := fun r r2 g2 => if r = r2 then w_L_law_18 (n + 1) N xs (nI (6 * k) + 6) g2 (fun r _ => r = 1) else (0 : Int32) = 1) hR (fun r g2 hg => it rfl (ihk g2 hg))
    refine is (fun _ => ?_) (fun _ => ?_)
    · simp only [rd_eq i1, rd_eq i2]
      exact h_man _ _ g (P := fun r r2 g2 => if r = r2 then w_L_law_18 (n + 1) N xs (nI (6 * k) + 6) g2 (fun r _ => r = 1) else (0 : Int32) = 1) hR (fun r g2 hg => it rfl (ihk g2 hg))
    refine is (fun _ => ?_) (fun _ => ?_)
    · simp only [rd_eq i1, rd_eq i2, rd_eq i3]
      exact h_state _ _ _ g (P := fun r r2 g2 => if r = r2 then w_L_law_18 (n + 1) N xs (nI (6 * k) + 6) g2 (fun r _ => r = 1) else (0 : Int32) = 1) hR (fun r g2 hg => it rfl (ihk g2 hg))
    refine is (fun _ => ?_) (fun _ => ?_)
    · simp only [rd_eq i1, rd_eq i2, rd_eq i3]
      exact h_stateOf _ _ _ g (P := fun r r2 g2 => if r = r2 then w_L_law_18 (n + 1) N xs (nI (6 * k) + 6) g2 (fun r _ => r = 1) else (0 : Int32) = 1) hR (fun r g2 hg => it rfl (ihk g2 hg))
    refine is (fun _ => ?_) (fun _ => ?_)
    · simp only [rd_eq i1]
      exact h_manAt _ g (P := fun r r2 g2 => if r = r2 then w_L_law_18 (n + 1) N xs (nI (6 * k) + 6) g2 (fun r _ => r = 1) else (0 : Int32) = 1) hR (fun r g2 hg => it rfl (ihk g2 hg))
    refine is (fun _ => ?_) (fun _ => ?_)
    · simp only [rd_eq i1, rd_eq i2, rd_eq i3, rd_eq i4]
      exact h_mail _ _ _ _ g (P := fun r r2 g2 => if r = r2 then w_L_law_18 (n + 1) N xs (nI (6 * k) + 6) g2 (fun r _ => r = 1) else (0 : Int32) = 1) hR (fun r g2 hg => it rfl (ihk g2 hg))
    refine is (fun _ => ?_) (fun _ => ?_)
    · simp only [rd_eq i1, rd_eq i2, rd_eq i3]
      exact h_feed _ _ g (P := fun r r2 g2 => if r = r2 then w_L_law_18 (n + 1) N xs (nI (6 * k) + 6) g2 (fun r _ => r = 1) else (0 : Int32) = 1) hR (fun r g2 hg => it rfl (ihk g2 hg))
    refine is (fun _ => ?_) (fun _ => ?_)
    · simp only [rd_eq i1]
      exact h_order _ g (P := fun r r2 g2 => if r = r2 then w_L_law_18 (n + 1) N xs (nI (6 * k) + 6) g2 (fun r _ => r = 1) else (0 : Int32) = 1) hR (fun r g2 hg => it rfl (ihk g2 hg))
    refine is (fun _ => ?_) (fun _ => ?_)
    · simp only [rd_eq i1, rd_eq i2]
      exact h_holds _ _ g (P := fun r r2 g2 => if r = r2 then w_L_law_18 (n + 1) N xs (nI (6 * k) + 6) g2 (fun r _ => r = 1) else (0 : Int32) = 1) hR (fun r g2 hg => it rfl (ihk g2 hg))
    refine is (fun _ => ?_) (fun _ => ?_)
    · simp only [rd_eq i1]
      exact h_keep _ g (P := fun r r2 g2 => if r = r2 then w_L_law_18 (n + 1) N xs (nI (6 * k) + 6) g2 (fun r _ => r = 1) else (0 : Int32) = 1) hR (fun r g2 hg => it rfl (ihk g2 hg))
    refine is (fun _ => ?_) (fun _ => ?_)
    · simp only [rd_eq i1, rd_eq i2]
      exact h_mailOf _ _ g (P := fun r r2 g2 => if r = r2 then w_L_law_18 (n + 1) N xs (nI (6 * k) + 6) g2 (fun r _ => r = 1) else (0 : Int32) = 1) hR (fun r g2 hg => it rfl (ihk g2 hg))
    refine is (fun _ => ?_) (fun _ => ?_)
    · simp only [rd_eq i1]
      exact h_goal _ g (P := fun r r2 g2 => if r = r2 then w_L_law_18 (n + 1) N xs (nI (6 * k) + 6) g2 (fun r _ => r = 1) else (0 : Int32) = 1) hR (fun r g2 hg => it rfl (ihk g2 hg))
    refine is (fun _ => ?_) (fun _ => ?_)
    · simp only [rd_eq i1]
      exact h_next _ g (P := fun r r2 g2 => if r = r2 then w_L_law_18 (n + 1) N xs (nI (6 * k) + 6) g2 (fun r _ => r = 1) else (0 : Int32) = 1) hR (fun r g2 hg => it rfl (ihk g2 hg))
    refine is (fun _ => ?_) (fun _ => ?_)
    · simp only [rd_eq i1, rd_eq i2]
      exact h_trace _ _ g (P := fun r r2 g2 => if r = r2 then w_L_law_18 (n + 1) N xs (nI (6 * k) + 6) g2 (fun r _ => r = 1) else (0 : Int32) = 1) hR (fun r g2 hg => it rfl (ihk g2 hg))
    refine is (fun _ => ?_) (fun _ => ?_)
    · simp only [rd_eq i1]
      exact h_fro _ g (P := fun r r2 g2 => if r = r2 then w_L_law_18 (n + 1) N xs (nI (6 * k) + 6) g2 (fun r _ => r = 1) else (0 : Int32) = 1) hR (fun r g2 hg => it rfl (ihk g2 hg))
    refine is (fun _ => ?_) (fun _ => ?_)
    · simp only [rd_eq i1, rd_eq i2]
      exact h_after _ _ g (P := fun r r2 g2 => if r = r2 then w_L_law_18 (n + 1) N xs (nI (6 * k) + 6) g2 (fun r _ => r = 1) else (0 : Int32) = 1) hR (fun r g2 hg => it rfl (ihk g2 hg))
    refine is (fun _ => ?_) (fun _ => ?_)
    · simp only [rd_eq i1]
      exact h_paid _ g (P := fun r r2 g2 => if r = r2 then w_L_law_18 (n + 1) N xs (nI (6 * k) + 6) g2 (fun r _ => r = 1) else (0 : Int32) = 1) hR (fun r g2 hg => it rfl (ihk g2 hg))
    refine is (fun _ => ?_) (fun _ => ?_)
    · simp only [rd_eq i1, rd_eq i2]
      exact h_cover _ _ g (P := fun r r2 g2 => if r = r2 then w_L_law_18 (n + 1) N xs (nI (6 * k) + 6) g2 (fun r _ => r = 1) else (0 : Int32) = 1) hR (fun r g2 hg => it rfl (ihk g2 hg))
    refine is (fun _ => ?_) (fun _ => ?_)
    · simp only [rd_eq i1, rd_eq i2]
      exact h_sure _ _ g (P := fun r r2 g2 => if r = r2 then w_L_law_18 (n + 1) N xs (nI (6 * k) + 6) g2 (fun r _ => r = 1) else (0 : Int32) = 1) hR (fun r g2 hg => it rfl (ihk g2 hg))
    refine is (fun _ => ?_) (fun _ => ?_)
    · simp only [rd_eq i1, rd_eq i2, rd_eq i3]
      exact h_sack _ _ _ g (P := fun r r2 g2 => if r = r2 then w_L_law_18 (n + 1) N xs (nI (6 * k) + 6) g2 (fun r _ => r = 1) else (0 : Int32) = 1) hR (fun r g2 hg => it rfl (ihk g2 hg))
    refine is (fun _ => ?_) (fun _ => ?_)
    · simp only [rd_eq i1]
      exact h_best _ g (P := fun r r2 g2 => if r = r2 then w_L_law_18 (n + 1) N xs (nI (6 * k) + 6) g2 (fun r _ => r = 1) else (0 : Int32) = 1) hR (fun r g2 hg => it rfl (ihk g2 hg))
    refine is (fun _ => ?_) (fun _ => ?_)
    · simp only [rd_eq i1]
      exact h_put _ g (P := fun r r2 g2 => if r = r2 then w_L_law_18 (n + 1) N xs (nI (6 * k) + 6) g2 (fun r _ => r = 1) else (0 : Int32) = 1) hR (fun r g2 hg => it rfl (ihk g2 hg))
    refine is (fun _ => ?_) (fun _ => ?_)
    · simp only [rd_eq i1]
      exact h_judge _ g (P := fun r r2 g2 => if r = r2 then w_L_law_18 (n + 1) N xs (nI (6 * k) + 6) g2 (fun r _ => r = 1) else (0 : Int32) = 1) hR (fun r g2 hg => it rfl (ihk g2 hg))
    refine is (fun _ => ?_) (fun _ => ?_)
    · simp only [rd_eq i1]
      exact h_waiting _ g (P := fun r r2 g2 => if r = r2 then w_L_law_18 (n + 1) N xs (nI (6 * k) + 6) g2 (fun r _ => r = 1) else (0 : Int32) = 1) hR (fun r g2 hg => it rfl (ihk g2 hg))
    refine is (fun _ => ?_) (fun _ => ?_)
    · simp only [rd_eq i1]
      exact h_count _ g (P := fun r r2 g2 => if r = r2 then w_L_law_18 (n + 1) N xs (nI (6 * k) + 6) g2 (fun r _ => r = 1) else (0 : Int32) = 1) hR (fun r g2 hg => it rfl (ihk g2 hg))
    exact ihk g hR
theorem goal_of {R : fp_G → Prop}
    (h_office : ∀ (x0 : Int32) (x1 : Int32), x1 = 0 ∨ x1 = 1 → fp_sim R (w_X8_office x0 x1) (w_X9_office x0 x1))
    (h_staff : ∀ (x0 : Int32) (x1 : Int32) (x2 : Int32), x2 = 0 ∨ x2 = 1 → fp_sim R (w_X8_staff x0 x1 x2) (w_X9_staff x0 x1 x2))
    (h_way : ∀ (x0 : Int32) (x1 : Int32) (x2 : Int32) (x3 : Int32) (x4 : Int32), fp_sim R (w_X8_way x0 x1 x2 x3 x4) (w_X9_way x0 x1 x2 x3 x4))
    (h_shut : ∀ (x0 : Int32) (x1 : Int32) (x2 : Int32), fp_sim R (w_X8_shut x0 x1 x2) (w_X9_shut x0 x1 x2))
    (h_far : ∀ (x0 : Int32) (x1 : Int32), fp_sim R (w_X8_far x0 x1) (w_X9_far x0 x1))
    (h_late : ∀ (x0 : Int32), fp_sim R (w_X8_late x0) (w_X9_late x0))
    (h_hours : ∀ (x0 : Int32), fp_sim R (w_X8_hours x0) (w_X9_hours x0))
    (h_move : ∀ (x0 : Int32) (x1 : Int32) (x2 : Int32), fp_sim R (w_X8_move x0 x1 x2) (w_X9_move x0 x1 x2))
    (h_is : ∀ (x0 : Int32) (x1 : Int32), fp_sim R (w_X8_is x0 x1) (w_X9_is x0 x1))
    (h_list : ∀ (x0 : Int32) (x1 : Int32) (x2 : Int32), fp_sim R (w_X8_list x0 x1 x2) (w_X9_list x0 x1 x2))
    (h_man : ∀ (x0 : Int32) (x1 : Int32), fp_sim R (w_X8_man x0 x1) (w_X9_man x0 x1))
    (h_state : ∀ (x0 : Int32) (x1 : Int32) (x2 : Int32), fp_sim R (w_X8_state x0 x1 x2) (w_X9_state x0 x1 x2))
    (h_stateOf : ∀ (x0 : Int32) (x1 : Int32) (x2 : Int32), fp_sim R (w_X8_stateOf x0 x1 x2) (w_X9_stateOf x0 x1 x2))
    (h_manAt : ∀ (x0 : Int32), fp_sim R (w_X8_manAt x0) (w_X9_manAt x0))
    (h_mail : ∀ (x0 : Int32) (x1 : Int32) (x2 : Int32) (x3 : Int32), fp_sim R (w_X8_mail x0 x1 x2 x3) (w_X9_mail x0 x1 x2 x3))
    (h_feed : ∀ (v : Int32) (w : Int64), fp_sim R (w_X8_feed v w) (w_X9_feed v w))
    (h_order : ∀ (x0 : Int32), fp_sim R (w_X8_order x0) (w_X9_order x0))
    (h_holds : ∀ (x0 : Int32) (x1 : Int32), fp_sim R (w_X8_holds x0 x1) (w_X9_holds x0 x1))
    (h_keep : ∀ (x0 : Int32), fp_sim R (w_X8_keep x0) (w_X9_keep x0))
    (h_mailOf : ∀ (x0 : Int32) (x1 : Int32), fp_sim R (w_X8_mailOf x0 x1) (w_X9_mailOf x0 x1))
    (h_goal : ∀ (x0 : Int32), fp_sim R (w_X8_goal x0) (w_X9_goal x0))
    (h_next : ∀ (x0 : Int32), fp_sim R (w_X8_next x0) (w_X9_next x0))
    (h_trace : ∀ (x0 : Int32) (x1 : Int32), fp_sim R (w_X8_trace x0 x1) (w_X9_trace x0 x1))
    (h_fro : ∀ (x0 : Int32), fp_sim R (w_X8_fro x0) (w_X9_fro x0))
    (h_after : ∀ (x0 : Int32) (x1 : Int32), fp_sim R (w_X8_after x0 x1) (w_X9_after x0 x1))
    (h_paid : ∀ (x0 : Int32), fp_sim R (w_X8_paid x0) (w_X9_paid x0))
    (h_cover : ∀ (x0 : Int32) (x1 : Int32), fp_sim R (w_X8_cover x0 x1) (w_X9_cover x0 x1))
    (h_sure : ∀ (x0 : Int32) (x1 : Int32), fp_sim R (w_X8_sure x0 x1) (w_X9_sure x0 x1))
    (h_sack : ∀ (x0 : Int32) (x1 : Int32) (x2 : Int32), fp_sim R (w_X8_sack x0 x1 x2) (w_X9_sack x0 x1 x2))
    (h_best : ∀ (x0 : Int32), fp_sim R (w_X8_best x0) (w_X9_best x0))
    (h_put : ∀ (x0 : Int32), fp_sim R (w_X8_put x0) (w_X9_put x0))
    (h_judge : ∀ (x0 : Int32), fp_sim R (w_X8_judge x0) (w_X9_judge x0))
    (h_waiting : ∀ (x0 : Int32), fp_sim R (w_X8_waiting x0) (w_X9_waiting x0))
    (h_count : ∀ (x0 : Int32), fp_sim R (w_X8_count x0) (w_X9_count x0))
    (h0 : ∀ f, fp_far0 f → R (fp_g0 f)) : fp_goal := by
  intro N xs f hN hf
  exact ⟨N + 2, law_loop h_office h_staff h_way h_shut h_far h_late h_hours h_move h_is h_list h_man h_state h_stateOf h_manAt h_mail h_feed h_order h_holds h_keep h_mailOf h_goal h_next h_trace h_fro h_after h_paid h_cover h_sure h_sack h_best h_put h_judge h_waiting h_count hN xs (N + 1) 0 (fp_g0 f) (by omega) (by omega) (h0 f hf)⟩
