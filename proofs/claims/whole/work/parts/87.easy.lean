/-! ===== calls that only look and write: the same answer, and which state ===== -/
/-- behind a refusal of kind k -/
def refG (g : fp_G) (k : Nat) : fp_G := gu (gu g 1 k (g 1 k + 1)) 68 k (g 68 k + 1)
theorem outS_c (a : Int32) (l h : Int) : (outS a l h = -4 ∧ a.toInt < l) ∨ (outS a l h = -6 ∧ l ≤ a.toInt ∧ h < a.toInt) ∨ (outS a l h = 0 ∧ l ≤ a.toInt ∧ a.toInt ≤ h) := by
  unfold outS
  by_cases c : a.toInt < l
  · exact Or.inl ⟨if_pos c, c⟩
  · by_cases c2 : h < a.toInt
    · exact Or.inr (Or.inl ⟨by rw [if_neg c, if_pos c2], by omega, c2⟩)
    · exact Or.inr (Or.inr ⟨by rw [if_neg c, if_neg c2], by omega, by omega⟩)
theorem nat_of {a : Int32} {l h : Int} (h0 : 0 ≤ l) (h1 : l ≤ a.toInt) (h2 : a.toInt ≤ h) : ∃ j : Nat, a = nI j ∧ (j : Int) = a.toInt := by
  refine ⟨a.toInt.toNat, ?_, by omega⟩
  have hm : a.toInt < 2 ^ 31 := Int32.toInt_lt a
  rw [eq_I, nI_I (by omega)]
  omega
theorem c_keep {x : Int32} {g : fp_G} {P : Int32 → Int32 → fp_G → Prop} (hk : g 67 43 = g 2 7) (ok : ∀ j, 1 ≤ j → j ≤ 999 → x = nI j → P (g 2 7) (g 2 7) (gu (gu g 2 7 x) 67 43 x)) (no : ∀ r k, P r r (refG g k)) : w_X8_keep x g (fun r g1 => w_X9_keep x g1 (fun r2 g2 => P r r2 g2)) := by
  unfold w_X8_keep
  refine e_outside (l := 1) (h := 999) rfl rfl ?_
  rcases outS_c x 1 999 with ⟨h, c⟩ | ⟨h, c⟩ | ⟨h, c⟩ <;> rw [h]
  · refine ie (by decide) (e_refuse (k := 4) rfl (by decide) ?_)
    unfold w_X9_keep
    refine e_out (l := 1) (h := 999) rfl rfl ?_
    rw [h]
    exact ie (by decide) (e_no (k := 4) rfl (by decide) (no _ 4))
  · refine ie (by decide) (e_refuse (k := 6) rfl (by decide) ?_)
    unfold w_X9_keep
    refine e_out (l := 1) (h := 999) rfl rfl ?_
    rw [h]
    exact ie (by decide) (e_no (k := 6) rfl (by decide) (no _ 6))
  · refine it (by decide) (pf_i ?_)
    unfold w_X9_keep
    refine e_out (l := 1) (h := 999) rfl rfl ?_
    rw [h]
    refine it rfl (pf_i ?_)
    obtain ⟨j, e, hj⟩ := nat_of (by omega) c.1 c.2
    have := ok j (by omega) (by omega) e
    show P (g 2 7) (g 67 43) _
    rw [hk]
    exact this
theorem c_office {x z : Int32} {g : fp_G} {P : Int32 → Int32 → fp_G → Prop} {n : Nat} (hn : n ≤ 12) (h6 : g 6 3 = nI n) (hk : g 67 12 = nI n)
    (ok : ∀ j, j ≤ 99 → x = nI j → n < 12 → P (nI n) (nI n) (gu (gu (gu (gu (gu (gu g 7 n x) 8 n (vp_nar .boolean z)) 6 3 (nI (n + 1))) 69 n x) 79 n (vp_nar .boolean z)) 67 12 (nI (n + 1)))) (no : ∀ r k, P r r (refG g k)) : w_X8_office x z g (fun r g1 => w_X9_office x z g1 (fun r2 g2 => P r r2 g2)) := by
  unfold w_X8_office
  have room : ∀ (c : outS x 0 99 = -6 ∨ (outS x 0 99 = 0 ∧ n = 12)), w_X8_refuse (-6) g (fun r g1 => w_X9_office x z g1 (fun r2 g2 => P r r2 g2)) := by
    intro c
    refine e_refuse (k := 6) rfl (by decide) ?_
    unfold w_X9_office
    refine e_out (l := 0) (h := 99) rfl rfl (j_I ?_)
    rcases c with c | ⟨c, c2⟩
    · rw [c]
      exact ie (by decide) (ie (by decide) (e_no (k := 6) rfl (by decide) (no _ 6)))
    · rw [c]
      refine it rfl (it ?_ (ie (by decide) (e_no (k := 6) rfl (by decide) (no _ 6))))
      show g 67 12 = 12
      rw [hk, c2]
      rfl
  have z0 : (0 : Int32).toInt = 0 := rfl
  have z99 : (99 : Int32).toInt = 99 := rfl
  rcases outS_c x 0 99 with ⟨h, c⟩ | ⟨h, c⟩ | ⟨h, c⟩
  · refine ie (by rw [le_I]; omega) (e_refuse (k := 4) rfl (by decide) ?_)
    unfold w_X9_office
    refine e_out (l := 0) (h := 99) rfl rfl (j_I ?_)
    rw [h]
    exact ie (by decide) (ie (by decide) (e_no (k := 4) rfl (by decide) (no _ 4)))
  · exact it (by rw [le_I]; omega) (j_I (it (by rw [lt_I]; omega) (room (Or.inl h))))
  · refine it (by rw [le_I]; omega) (j_I (ie (by rw [lt_I]; omega) ?_))
    by_cases c12 : n = 12
    · refine ie ?_ (room (Or.inr ⟨h, c12⟩))
      rw [h6, c12]
      decide
    · refine it ?_ ?_
      · rw [h6, lt_I, nI_I (by omega), show (12 : Int32).toInt = 12 from rfl]
        omega
      unfold w_X2_addOffice
      refine wr_e h6 (by omega) (by omega) (wr_e h6 (by omega) (by omega) (pf_i ?_))
      unfold w_X9_office
      refine e_out (l := 0) (h := 99) rfl rfl (j_I ?_)
      rw [h]
      refine it rfl (ie ?_ (it rfl ?_))
      · show ¬ g 67 12 = 12
        rw [hk, eq_I, nI_I (by omega), show (12 : Int32).toInt = 12 from rfl]
        omega
      refine wr_e hk (by omega) (by omega) (wr_e hk (by omega) (by omega) (pf_i ?_))
      obtain ⟨j, e, hj⟩ := nat_of (by omega) c.1 c.2
      have := ok j (by omega) e (by omega)
      have e1 : nI n + 1 - 1 = nI n := by rw [show (1 : Int32) = nI 1 from rfl]; exact Int32.add_sub_cancel _ _
      show P (g 6 3 + 1 - 1) (g 67 12 + 1 - 1) (gu (gu (gu (gu (gu (gu g 7 n x) 8 n (vp_nar .boolean z)) 6 3 (g 6 3 + 1)) 69 n x) 79 n (vp_nar .boolean z)) 67 12 (g 67 12 + 1))
      rw [h6, hk, e1, show nI n + 1 = nI (n + 1) from (nI_succ n).symm]
      exact this
