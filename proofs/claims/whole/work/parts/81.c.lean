def mk_X0 (E : fp_E) (h : Nat) (n0 : Nat) (q0 : Nat) (q1 : Nat) (q2 : Nat) (q3 : Nat) (q4 : Nat) (q5 : Nat) (q6 : Nat) (q7 : Nat) : va_W := [(h, .inr (0, [.ref q0, .ref q1, .ref q2, .ref q3, .ref q4, .ref q5, .ref q6, .ref q7])),
  (q0, .inl (E.2.2 .int, 60, .inl (fun _ => 0))),
  (q1, .inl (E.2.2 .int, 60, .inl (fun _ => 0))),
  (q2, .inl (E.2.2 .int, 60, .inl (fun _ => 0))),
  (q3, .inl (E.2.2 .boolean, 60, .inl (fun _ => 0))),
  (q4, .inl (E.2.2 .int, 60, .inl (fun _ => 0))),
  (q5, .inl (E.2.2 .int, 60, .inl (fun _ => 0))),
  (q6, .inl (E.2.2 .boolean, 60, .inl (fun _ => 0))),
  (q7, .inl (E.2.2 .byte, n0, .inl (fun _ => 0)))]
set_option maxHeartbeats 4000000 in
set_option maxRecDepth 100000 in
theorem ii_X0 {l : Launch} {E : fp_E} {lo h : Nat} {n0 : Nat} (hn00 : n0 ≤ 2400 := by decide) : fp_I l E lo yX0_init cX0_init 2 1 8 (420 + n0) [.ref h, .int (nI n0)] [(h, .inr (0, [.null, .null, .null, .null, .null, .null, .null, .null]))] (fun w1 => ∃ (q0 : Nat) (q1 : Nat) (q2 : Nat) (q3 : Nat) (q4 : Nat) (q5 : Nat) (q6 : Nat) (q7 : Nat), w1 = mk_X0 E h n0 q0 q1 q2 q3 q4 q5 q6 q7) := by
  have hn0 : n0 < 2 ^ 31 := by omega
  refine fp_enterI rfl [some (.ref h), some (.int (nI n0))] (Nat.le_of_ble_eq_true rfl) (fun q hq => hq) (fun Y hE hl hlo hn hR hin C hret => ?_)
  subst hE hl hlo
  refine wc_aload_n C (i := 0) dX0_init_0 rfl rfl ?_
  refine wc_obj C ob_X0_3 ob_i ob_c dX0_init_1 (by rw [hR]; exact Nat.le_of_ble_eq_true rfl) (by rw [hR]; exact Nat.le_of_ble_eq_true rfl) (Nat.le_of_ble_eq_true rfl) ?_
  refine wc_aload_n C (i := 0) dX0_init_4 rfl rfl ?_
  refine wc_bipush C (v := 60) dX0_init_5 (by decide) ?_
  refine wc_newa C (atype := .int) (ty := .int) (t0 := 0) (N := 60) rfl rfl (fun _ _ h => h) ar_int (nwa_int _) (by decide) (by decide) (by decide) (by rw [hR]; exact Nat.le_of_ble_eq_true rfl) (by rw [hR]; show 0 + 60 ≤ 420 + n0; omega) dX0_init_7 (fun q0 => ?_)
  show WC Y 9 [some (.ref h), some (.int (nI n0))] [.ref q0, .ref h] [(h, .inr (0, [.null, .null, .null, .null, .null, .null, .null, .null])), (q0, .inl (Y.2.1.2.2 .int, 60, .inl (fun _ => 0)))] 1 (60)
  refine wc_putF C (p := 0) (j := 0) (hin rfl) rfl rfl in_X0 (by decide) tyX0 tyX0_ok nmX0 f_X0_9 rfl rfl (tyX0_ok 0 (by decide)) rfl rfl (Nat.le_of_ble_eq_true rfl) dX0_init_9 ?_
  show WC Y 12 [some (.ref h), some (.int (nI n0))] [] [(h, .inr (0, [.ref q0, .null, .null, .null, .null, .null, .null, .null])), (q0, .inl (Y.2.1.2.2 .int, 60, .inl (fun _ => 0)))] 1 (60)
  refine wc_aload_n C (i := 0) dX0_init_12 rfl rfl ?_
  refine wc_bipush C (v := 60) dX0_init_13 (by decide) ?_
  refine wc_newa C (atype := .int) (ty := .int) (t0 := 0) (N := 60) rfl rfl (fun _ _ h => h) ar_int (nwa_int _) (by decide) (by decide) (by decide) (by rw [hR]; exact Nat.le_of_ble_eq_true rfl) (by rw [hR]; show 60 + 60 ≤ 420 + n0; omega) dX0_init_15 (fun q1 => ?_)
  show WC Y 17 [some (.ref h), some (.int (nI n0))] [.ref q1, .ref h] [(h, .inr (0, [.ref q0, .null, .null, .null, .null, .null, .null, .null])), (q0, .inl (Y.2.1.2.2 .int, 60, .inl (fun _ => 0))), (q1, .inl (Y.2.1.2.2 .int, 60, .inl (fun _ => 0)))] 2 (120)
  refine wc_putF C (p := 0) (j := 1) (hin rfl) rfl rfl in_X0 (by decide) tyX0 tyX0_ok nmX0 f_X0_15 rfl rfl (tyX0_ok 1 (by decide)) rfl rfl (Nat.le_of_ble_eq_true rfl) dX0_init_17 ?_
  show WC Y 20 [some (.ref h), some (.int (nI n0))] [] [(h, .inr (0, [.ref q0, .ref q1, .null, .null, .null, .null, .null, .null])), (q0, .inl (Y.2.1.2.2 .int, 60, .inl (fun _ => 0))), (q1, .inl (Y.2.1.2.2 .int, 60, .inl (fun _ => 0)))] 2 (120)
  refine wc_aload_n C (i := 0) dX0_init_20 rfl rfl ?_
  refine wc_bipush C (v := 60) dX0_init_21 (by decide) ?_
  refine wc_newa C (atype := .int) (ty := .int) (t0 := 0) (N := 60) rfl rfl (fun _ _ h => h) ar_int (nwa_int _) (by decide) (by decide) (by decide) (by rw [hR]; exact Nat.le_of_ble_eq_true rfl) (by rw [hR]; show 120 + 60 ≤ 420 + n0; omega) dX0_init_23 (fun q2 => ?_)
  show WC Y 25 [some (.ref h), some (.int (nI n0))] [.ref q2, .ref h] [(h, .inr (0, [.ref q0, .ref q1, .null, .null, .null, .null, .null, .null])), (q0, .inl (Y.2.1.2.2 .int, 60, .inl (fun _ => 0))), (q1, .inl (Y.2.1.2.2 .int, 60, .inl (fun _ => 0))), (q2, .inl (Y.2.1.2.2 .int, 60, .inl (fun _ => 0)))] 3 (180)
  refine wc_putF C (p := 0) (j := 2) (hin rfl) rfl rfl in_X0 (by decide) tyX0 tyX0_ok nmX0 f_X0_18 rfl rfl (tyX0_ok 2 (by decide)) rfl rfl (Nat.le_of_ble_eq_true rfl) dX0_init_25 ?_
  show WC Y 28 [some (.ref h), some (.int (nI n0))] [] [(h, .inr (0, [.ref q0, .ref q1, .ref q2, .null, .null, .null, .null, .null])), (q0, .inl (Y.2.1.2.2 .int, 60, .inl (fun _ => 0))), (q1, .inl (Y.2.1.2.2 .int, 60, .inl (fun _ => 0))), (q2, .inl (Y.2.1.2.2 .int, 60, .inl (fun _ => 0)))] 3 (180)
  refine wc_aload_n C (i := 0) dX0_init_28 rfl rfl ?_
  refine wc_bipush C (v := 60) dX0_init_29 (by decide) ?_
  refine wc_newa C (atype := .boolean) (ty := .boolean) (t0 := 1) (N := 60) rfl rfl (fun _ _ h => h) ar_boolean (nwa_boolean _) (by decide) (by decide) (by decide) (by rw [hR]; exact Nat.le_of_ble_eq_true rfl) (by rw [hR]; show 180 + 60 ≤ 420 + n0; omega) dX0_init_31 (fun q3 => ?_)
  show WC Y 33 [some (.ref h), some (.int (nI n0))] [.ref q3, .ref h] [(h, .inr (0, [.ref q0, .ref q1, .ref q2, .null, .null, .null, .null, .null])), (q0, .inl (Y.2.1.2.2 .int, 60, .inl (fun _ => 0))), (q1, .inl (Y.2.1.2.2 .int, 60, .inl (fun _ => 0))), (q2, .inl (Y.2.1.2.2 .int, 60, .inl (fun _ => 0))), (q3, .inl (Y.2.1.2.2 .boolean, 60, .inl (fun _ => 0)))] 4 (240)
  refine wc_putF C (p := 0) (j := 3) (hin rfl) rfl rfl in_X0 (by decide) tyX0 tyX0_ok nmX0 f_X0_21 rfl rfl (tyX0_ok 3 (by decide)) rfl rfl (Nat.le_of_ble_eq_true rfl) dX0_init_33 ?_
  show WC Y 36 [some (.ref h), some (.int (nI n0))] [] [(h, .inr (0, [.ref q0, .ref q1, .ref q2, .ref q3, .null, .null, .null, .null])), (q0, .inl (Y.2.1.2.2 .int, 60, .inl (fun _ => 0))), (q1, .inl (Y.2.1.2.2 .int, 60, .inl (fun _ => 0))), (q2, .inl (Y.2.1.2.2 .int, 60, .inl (fun _ => 0))), (q3, .inl (Y.2.1.2.2 .boolean, 60, .inl (fun _ => 0)))] 4 (240)
  refine wc_aload_n C (i := 0) dX0_init_36 rfl rfl ?_
  refine wc_bipush C (v := 60) dX0_init_37 (by decide) ?_
  refine wc_newa C (atype := .int) (ty := .int) (t0 := 0) (N := 60) rfl rfl (fun _ _ h => h) ar_int (nwa_int _) (by decide) (by decide) (by decide) (by rw [hR]; exact Nat.le_of_ble_eq_true rfl) (by rw [hR]; show 240 + 60 ≤ 420 + n0; omega) dX0_init_39 (fun q4 => ?_)
  show WC Y 41 [some (.ref h), some (.int (nI n0))] [.ref q4, .ref h] [(h, .inr (0, [.ref q0, .ref q1, .ref q2, .ref q3, .null, .null, .null, .null])), (q0, .inl (Y.2.1.2.2 .int, 60, .inl (fun _ => 0))), (q1, .inl (Y.2.1.2.2 .int, 60, .inl (fun _ => 0))), (q2, .inl (Y.2.1.2.2 .int, 60, .inl (fun _ => 0))), (q3, .inl (Y.2.1.2.2 .boolean, 60, .inl (fun _ => 0))), (q4, .inl (Y.2.1.2.2 .int, 60, .inl (fun _ => 0)))] 5 (300)
  refine wc_putF C (p := 0) (j := 4) (hin rfl) rfl rfl in_X0 (by decide) tyX0 tyX0_ok nmX0 f_X0_25 rfl rfl (tyX0_ok 4 (by decide)) rfl rfl (Nat.le_of_ble_eq_true rfl) dX0_init_41 ?_
  show WC Y 44 [some (.ref h), some (.int (nI n0))] [] [(h, .inr (0, [.ref q0, .ref q1, .ref q2, .ref q3, .ref q4, .null, .null, .null])), (q0, .inl (Y.2.1.2.2 .int, 60, .inl (fun _ => 0))), (q1, .inl (Y.2.1.2.2 .int, 60, .inl (fun _ => 0))), (q2, .inl (Y.2.1.2.2 .int, 60, .inl (fun _ => 0))), (q3, .inl (Y.2.1.2.2 .boolean, 60, .inl (fun _ => 0))), (q4, .inl (Y.2.1.2.2 .int, 60, .inl (fun _ => 0)))] 5 (300)
  refine wc_aload_n C (i := 0) dX0_init_44 rfl rfl ?_
  refine wc_bipush C (v := 60) dX0_init_45 (by decide) ?_
  refine wc_newa C (atype := .int) (ty := .int) (t0 := 0) (N := 60) rfl rfl (fun _ _ h => h) ar_int (nwa_int _) (by decide) (by decide) (by decide) (by rw [hR]; exact Nat.le_of_ble_eq_true rfl) (by rw [hR]; show 300 + 60 ≤ 420 + n0; omega) dX0_init_47 (fun q5 => ?_)
  show WC Y 49 [some (.ref h), some (.int (nI n0))] [.ref q5, .ref h] [(h, .inr (0, [.ref q0, .ref q1, .ref q2, .ref q3, .ref q4, .null, .null, .null])), (q0, .inl (Y.2.1.2.2 .int, 60, .inl (fun _ => 0))), (q1, .inl (Y.2.1.2.2 .int, 60, .inl (fun _ => 0))), (q2, .inl (Y.2.1.2.2 .int, 60, .inl (fun _ => 0))), (q3, .inl (Y.2.1.2.2 .boolean, 60, .inl (fun _ => 0))), (q4, .inl (Y.2.1.2.2 .int, 60, .inl (fun _ => 0))), (q5, .inl (Y.2.1.2.2 .int, 60, .inl (fun _ => 0)))] 6 (360)
  refine wc_putF C (p := 0) (j := 5) (hin rfl) rfl rfl in_X0 (by decide) tyX0 tyX0_ok nmX0 f_X0_28 rfl rfl (tyX0_ok 5 (by decide)) rfl rfl (Nat.le_of_ble_eq_true rfl) dX0_init_49 ?_
  show WC Y 52 [some (.ref h), some (.int (nI n0))] [] [(h, .inr (0, [.ref q0, .ref q1, .ref q2, .ref q3, .ref q4, .ref q5, .null, .null])), (q0, .inl (Y.2.1.2.2 .int, 60, .inl (fun _ => 0))), (q1, .inl (Y.2.1.2.2 .int, 60, .inl (fun _ => 0))), (q2, .inl (Y.2.1.2.2 .int, 60, .inl (fun _ => 0))), (q3, .inl (Y.2.1.2.2 .boolean, 60, .inl (fun _ => 0))), (q4, .inl (Y.2.1.2.2 .int, 60, .inl (fun _ => 0))), (q5, .inl (Y.2.1.2.2 .int, 60, .inl (fun _ => 0)))] 6 (360)
  refine wc_aload_n C (i := 0) dX0_init_52 rfl rfl ?_
  refine wc_bipush C (v := 60) dX0_init_53 (by decide) ?_
  refine wc_newa C (atype := .boolean) (ty := .boolean) (t0 := 1) (N := 60) rfl rfl (fun _ _ h => h) ar_boolean (nwa_boolean _) (by decide) (by decide) (by decide) (by rw [hR]; exact Nat.le_of_ble_eq_true rfl) (by rw [hR]; show 360 + 60 ≤ 420 + n0; omega) dX0_init_55 (fun q6 => ?_)
  show WC Y 57 [some (.ref h), some (.int (nI n0))] [.ref q6, .ref h] [(h, .inr (0, [.ref q0, .ref q1, .ref q2, .ref q3, .ref q4, .ref q5, .null, .null])), (q0, .inl (Y.2.1.2.2 .int, 60, .inl (fun _ => 0))), (q1, .inl (Y.2.1.2.2 .int, 60, .inl (fun _ => 0))), (q2, .inl (Y.2.1.2.2 .int, 60, .inl (fun _ => 0))), (q3, .inl (Y.2.1.2.2 .boolean, 60, .inl (fun _ => 0))), (q4, .inl (Y.2.1.2.2 .int, 60, .inl (fun _ => 0))), (q5, .inl (Y.2.1.2.2 .int, 60, .inl (fun _ => 0))), (q6, .inl (Y.2.1.2.2 .boolean, 60, .inl (fun _ => 0)))] 7 (420)
  refine wc_putF C (p := 0) (j := 6) (hin rfl) rfl rfl in_X0 (by decide) tyX0 tyX0_ok nmX0 f_X0_31 rfl rfl (tyX0_ok 6 (by decide)) rfl rfl (Nat.le_of_ble_eq_true rfl) dX0_init_57 ?_
  show WC Y 60 [some (.ref h), some (.int (nI n0))] [] [(h, .inr (0, [.ref q0, .ref q1, .ref q2, .ref q3, .ref q4, .ref q5, .ref q6, .null])), (q0, .inl (Y.2.1.2.2 .int, 60, .inl (fun _ => 0))), (q1, .inl (Y.2.1.2.2 .int, 60, .inl (fun _ => 0))), (q2, .inl (Y.2.1.2.2 .int, 60, .inl (fun _ => 0))), (q3, .inl (Y.2.1.2.2 .boolean, 60, .inl (fun _ => 0))), (q4, .inl (Y.2.1.2.2 .int, 60, .inl (fun _ => 0))), (q5, .inl (Y.2.1.2.2 .int, 60, .inl (fun _ => 0))), (q6, .inl (Y.2.1.2.2 .boolean, 60, .inl (fun _ => 0)))] 7 (420)
  refine wc_aload_n C (i := 0) dX0_init_60 rfl rfl ?_
  refine wc_iload_n C (i := 1) dX0_init_61 rfl rfl ?_
  refine wc_iconst C (v := 0) dX0_init_62 (by decide) ?_
  refine wc_mmax C q_X0_34 (by rw [hR]; exact Nat.le_of_ble_eq_true rfl) (by rw [hR]; exact Nat.le_of_ble_eq_true rfl) (Nat.le_of_ble_eq_true rfl) (by rw [hR]; exact Nat.le_of_ble_eq_true rfl) (by rw [hR]; show 420 ≤ 420 + n0; omega) dX0_init_63 ?_
  rw [if_neg (nI_pos hn0)]
  refine wc_newa C (atype := .byte) (ty := .byte) (t0 := 2) (N := n0) rfl rfl (fun _ _ h => h) ar_byte (nwa_byte _) (nI_pos hn0) (nI_clamp hn0) (Nat.le_trans (Nat.mul_le_mul_right _ hn00) (by decide)) (by rw [hR]; exact Nat.le_of_ble_eq_true rfl) (by rw [hR]; show 420 + n0 ≤ 420 + n0; omega) dX0_init_66 (fun q7 => ?_)
  show WC Y 68 [some (.ref h), some (.int (nI n0))] [.ref q7, .ref h] [(h, .inr (0, [.ref q0, .ref q1, .ref q2, .ref q3, .ref q4, .ref q5, .ref q6, .null])), (q0, .inl (Y.2.1.2.2 .int, 60, .inl (fun _ => 0))), (q1, .inl (Y.2.1.2.2 .int, 60, .inl (fun _ => 0))), (q2, .inl (Y.2.1.2.2 .int, 60, .inl (fun _ => 0))), (q3, .inl (Y.2.1.2.2 .boolean, 60, .inl (fun _ => 0))), (q4, .inl (Y.2.1.2.2 .int, 60, .inl (fun _ => 0))), (q5, .inl (Y.2.1.2.2 .int, 60, .inl (fun _ => 0))), (q6, .inl (Y.2.1.2.2 .boolean, 60, .inl (fun _ => 0))), (q7, .inl (Y.2.1.2.2 .byte, n0, .inl (fun _ => 0)))] 8 (420 + n0)
  refine wc_putF C (p := 0) (j := 7) (hin rfl) rfl rfl in_X0 (by decide) tyX0 tyX0_ok nmX0 f_X0_40 rfl rfl (tyX0_ok 7 (by decide)) rfl rfl (Nat.le_of_ble_eq_true rfl) dX0_init_68 ?_
  show WC Y 71 [some (.ref h), some (.int (nI n0))] [] [(h, .inr (0, [.ref q0, .ref q1, .ref q2, .ref q3, .ref q4, .ref q5, .ref q6, .ref q7])), (q0, .inl (Y.2.1.2.2 .int, 60, .inl (fun _ => 0))), (q1, .inl (Y.2.1.2.2 .int, 60, .inl (fun _ => 0))), (q2, .inl (Y.2.1.2.2 .int, 60, .inl (fun _ => 0))), (q3, .inl (Y.2.1.2.2 .boolean, 60, .inl (fun _ => 0))), (q4, .inl (Y.2.1.2.2 .int, 60, .inl (fun _ => 0))), (q5, .inl (Y.2.1.2.2 .int, 60, .inl (fun _ => 0))), (q6, .inl (Y.2.1.2.2 .boolean, 60, .inl (fun _ => 0))), (q7, .inl (Y.2.1.2.2 .byte, n0, .inl (fun _ => 0)))] 8 (420 + n0)
  exact hret _ _ _ dX0_init_71 ⟨q0, q1, q2, q3, q4, q5, q6, q7, rfl⟩
def mk_X2 (E : fp_E) (h : Nat) (q0 : Nat) (q1 : Nat) (q2 : Nat) (q3 : Nat) (q4 : Nat) (q5 : Nat) (q6 : Nat) (q7 : Nat) (q8 : Nat) (q9 : Nat) (q10 : Nat) (f0 : Nat → Int32) : va_W := [(h, .inr (2, [.ref q0, .ref q1, .ref q2, .int 0, .ref q3, .ref q4, .ref q5, .ref q6, .ref q7, .int 0, .ref q8, .ref q9, .ref q10, .int 0])),
  (q0, .inl (E.2.2 .int, 12, .inl (fun _ => 0))),
  (q1, .inl (E.2.2 .boolean, 12, .inl (fun _ => 0))),
  (q3, .inl (E.2.2 .int, 24, .inl (fun _ => 0))),
  (q4, .inl (E.2.2 .int, 24, .inl (fun _ => 0))),
  (q5, .inl (E.2.2 .int, 24, .inl (fun _ => 0))),
  (q6, .inl (E.2.2 .int, 24, .inl (fun _ => 0))),
  (q7, .inl (E.2.2 .int, 24, .inl (fun _ => 0))),
  (q8, .inl (E.2.2 .int, 40, .inl (fun _ => 0))),
  (q9, .inl (E.2.2 .int, 40, .inl (fun _ => 0))),
  (q10, .inl (E.2.2 .int, 40, .inl (fun _ => 0))),
  (q2, .inl (E.2.2 .int, 144, .inl f0))]
set_option maxHeartbeats 4000000 in
set_option maxRecDepth 100000 in
theorem ii_X2 {l : Launch} {E : fp_E} {lo h : Nat} : fp_I l E lo yX2_init cX2_init 2 2 11 408 [.ref h] [(h, .inr (2, [.null, .null, .null, .int 0, .null, .null, .null, .null, .null, .int 0, .null, .null, .null, .int 0]))] (fun w1 => ∃ (q0 : Nat) (q1 : Nat) (q2 : Nat) (q3 : Nat) (q4 : Nat) (q5 : Nat) (q6 : Nat) (q7 : Nat) (q8 : Nat) (q9 : Nat) (q10 : Nat) (f0 : Nat → Int32), (∀ j, j < 144 → f0 j = if j % 13 = 0 then 0 else 1000000) ∧ w1 = mk_X2 E h q0 q1 q2 q3 q4 q5 q6 q7 q8 q9 q10 f0) := by
  refine fp_enterI rfl [some (.ref h), none] (Nat.le_of_ble_eq_true rfl) (fun q hq => hq) (fun Y hE hl hlo hn hR hin C hret => ?_)
  subst hE hl hlo
  refine wc_aload_n C (i := 0) dX2_init_0 rfl rfl ?_
  refine wc_obj C ob_X2_3 ob_i ob_c dX2_init_1 (by rw [hR]; decide) (by rw [hR]; decide) (Nat.le_of_ble_eq_true rfl) ?_
  refine wc_aload_n C (i := 0) dX2_init_4 rfl rfl ?_
  refine wc_bipush C (v := 12) dX2_init_5 (by decide) ?_
  refine wc_newa C (atype := .int) (ty := .int) (t0 := 0) (N := 12) rfl rfl (fun _ _ h => h) ar_int (nwa_int _) (by decide) (by decide) (by decide) (by rw [hR]; decide) (by rw [hR]; decide) dX2_init_7 (fun q0 => ?_)
  show WC Y 9 [some (.ref h), none] [.ref q0, .ref h] [(h, .inr (2, [.null, .null, .null, .int 0, .null, .null, .null, .null, .null, .int 0, .null, .null, .null, .int 0])), (q0, .inl (Y.2.1.2.2 .int, 12, .inl (fun _ => 0)))] 1 (12)
  refine wc_putF C (p := 0) (j := 0) (hin rfl) rfl rfl in_X2 (by decide) tyX2 tyX2_ok nmX2 f_X2_9 rfl rfl (tyX2_ok 0 (by decide)) rfl rfl (Nat.le_of_ble_eq_true rfl) dX2_init_9 ?_
  show WC Y 12 [some (.ref h), none] [] [(h, .inr (2, [.ref q0, .null, .null, .int 0, .null, .null, .null, .null, .null, .int 0, .null, .null, .null, .int 0])), (q0, .inl (Y.2.1.2.2 .int, 12, .inl (fun _ => 0)))] 1 (12)
  refine wc_aload_n C (i := 0) dX2_init_12 rfl rfl ?_
  refine wc_bipush C (v := 12) dX2_init_13 (by decide) ?_
  refine wc_newa C (atype := .boolean) (ty := .boolean) (t0 := 1) (N := 12) rfl rfl (fun _ _ h => h) ar_boolean (nwa_boolean _) (by decide) (by decide) (by decide) (by rw [hR]; decide) (by rw [hR]; decide) dX2_init_15 (fun q1 => ?_)
  show WC Y 17 [some (.ref h), none] [.ref q1, .ref h] [(h, .inr (2, [.ref q0, .null, .null, .int 0, .null, .null, .null, .null, .null, .int 0, .null, .null, .null, .int 0])), (q0, .inl (Y.2.1.2.2 .int, 12, .inl (fun _ => 0))), (q1, .inl (Y.2.1.2.2 .boolean, 12, .inl (fun _ => 0)))] 2 (24)
  refine wc_putF C (p := 0) (j := 1) (hin rfl) rfl rfl in_X2 (by decide) tyX2 tyX2_ok nmX2 f_X2_15 rfl rfl (tyX2_ok 1 (by decide)) rfl rfl (Nat.le_of_ble_eq_true rfl) dX2_init_17 ?_
  show WC Y 20 [some (.ref h), none] [] [(h, .inr (2, [.ref q0, .ref q1, .null, .int 0, .null, .null, .null, .null, .null, .int 0, .null, .null, .null, .int 0])), (q0, .inl (Y.2.1.2.2 .int, 12, .inl (fun _ => 0))), (q1, .inl (Y.2.1.2.2 .boolean, 12, .inl (fun _ => 0)))] 2 (24)
  refine wc_aload_n C (i := 0) dX2_init_20 rfl rfl ?_
  refine wc_sipush C (v := 144) dX2_init_21 (by decide) ?_
  refine wc_newa C (atype := .int) (ty := .int) (t0 := 0) (N := 144) rfl rfl (fun _ _ h => h) ar_int (nwa_int _) (by decide) (by decide) (by decide) (by rw [hR]; decide) (by rw [hR]; decide) dX2_init_24 (fun q2 => ?_)
  show WC Y 26 [some (.ref h), none] [.ref q2, .ref h] [(h, .inr (2, [.ref q0, .ref q1, .null, .int 0, .null, .null, .null, .null, .null, .int 0, .null, .null, .null, .int 0])), (q0, .inl (Y.2.1.2.2 .int, 12, .inl (fun _ => 0))), (q1, .inl (Y.2.1.2.2 .boolean, 12, .inl (fun _ => 0))), (q2, .inl (Y.2.1.2.2 .int, 144, .inl (fun _ => 0)))] 3 (168)
  refine wc_putF C (p := 0) (j := 2) (hin rfl) rfl rfl in_X2 (by decide) tyX2 tyX2_ok nmX2 f_X2_19 rfl rfl (tyX2_ok 2 (by decide)) rfl rfl (Nat.le_of_ble_eq_true rfl) dX2_init_26 ?_
  show WC Y 29 [some (.ref h), none] [] [(h, .inr (2, [.ref q0, .ref q1, .ref q2, .int 0, .null, .null, .null, .null, .null, .int 0, .null, .null, .null, .int 0])), (q0, .inl (Y.2.1.2.2 .int, 12, .inl (fun _ => 0))), (q1, .inl (Y.2.1.2.2 .boolean, 12, .inl (fun _ => 0))), (q2, .inl (Y.2.1.2.2 .int, 144, .inl (fun _ => 0)))] 3 (168)
  refine wc_aload_n C (i := 0) dX2_init_29 rfl rfl ?_
  refine wc_bipush C (v := 24) dX2_init_30 (by decide) ?_
  refine wc_newa C (atype := .int) (ty := .int) (t0 := 0) (N := 24) rfl rfl (fun _ _ h => h) ar_int (nwa_int _) (by decide) (by decide) (by decide) (by rw [hR]; decide) (by rw [hR]; decide) dX2_init_32 (fun q3 => ?_)
  show WC Y 34 [some (.ref h), none] [.ref q3, .ref h] [(h, .inr (2, [.ref q0, .ref q1, .ref q2, .int 0, .null, .null, .null, .null, .null, .int 0, .null, .null, .null, .int 0])), (q0, .inl (Y.2.1.2.2 .int, 12, .inl (fun _ => 0))), (q1, .inl (Y.2.1.2.2 .boolean, 12, .inl (fun _ => 0))), (q2, .inl (Y.2.1.2.2 .int, 144, .inl (fun _ => 0))), (q3, .inl (Y.2.1.2.2 .int, 24, .inl (fun _ => 0)))] 4 (192)
  refine wc_putF C (p := 0) (j := 4) (hin rfl) rfl rfl in_X2 (by decide) tyX2 tyX2_ok nmX2 f_X2_22 rfl rfl (tyX2_ok 4 (by decide)) rfl rfl (Nat.le_of_ble_eq_true rfl) dX2_init_34 ?_
  show WC Y 37 [some (.ref h), none] [] [(h, .inr (2, [.ref q0, .ref q1, .ref q2, .int 0, .ref q3, .null, .null, .null, .null, .int 0, .null, .null, .null, .int 0])), (q0, .inl (Y.2.1.2.2 .int, 12, .inl (fun _ => 0))), (q1, .inl (Y.2.1.2.2 .boolean, 12, .inl (fun _ => 0))), (q2, .inl (Y.2.1.2.2 .int, 144, .inl (fun _ => 0))), (q3, .inl (Y.2.1.2.2 .int, 24, .inl (fun _ => 0)))] 4 (192)
  refine wc_aload_n C (i := 0) dX2_init_37 rfl rfl ?_
  refine wc_bipush C (v := 24) dX2_init_38 (by decide) ?_
  refine wc_newa C (atype := .int) (ty := .int) (t0 := 0) (N := 24) rfl rfl (fun _ _ h => h) ar_int (nwa_int _) (by decide) (by decide) (by decide) (by rw [hR]; decide) (by rw [hR]; decide) dX2_init_40 (fun q4 => ?_)
  show WC Y 42 [some (.ref h), none] [.ref q4, .ref h] [(h, .inr (2, [.ref q0, .ref q1, .ref q2, .int 0, .ref q3, .null, .null, .null, .null, .int 0, .null, .null, .null, .int 0])), (q0, .inl (Y.2.1.2.2 .int, 12, .inl (fun _ => 0))), (q1, .inl (Y.2.1.2.2 .boolean, 12, .inl (fun _ => 0))), (q2, .inl (Y.2.1.2.2 .int, 144, .inl (fun _ => 0))), (q3, .inl (Y.2.1.2.2 .int, 24, .inl (fun _ => 0))), (q4, .inl (Y.2.1.2.2 .int, 24, .inl (fun _ => 0)))] 5 (216)
  refine wc_putF C (p := 0) (j := 5) (hin rfl) rfl rfl in_X2 (by decide) tyX2 tyX2_ok nmX2 f_X2_25 rfl rfl (tyX2_ok 5 (by decide)) rfl rfl (Nat.le_of_ble_eq_true rfl) dX2_init_42 ?_
  show WC Y 45 [some (.ref h), none] [] [(h, .inr (2, [.ref q0, .ref q1, .ref q2, .int 0, .ref q3, .ref q4, .null, .null, .null, .int 0, .null, .null, .null, .int 0])), (q0, .inl (Y.2.1.2.2 .int, 12, .inl (fun _ => 0))), (q1, .inl (Y.2.1.2.2 .boolean, 12, .inl (fun _ => 0))), (q2, .inl (Y.2.1.2.2 .int, 144, .inl (fun _ => 0))), (q3, .inl (Y.2.1.2.2 .int, 24, .inl (fun _ => 0))), (q4, .inl (Y.2.1.2.2 .int, 24, .inl (fun _ => 0)))] 5 (216)
  refine wc_aload_n C (i := 0) dX2_init_45 rfl rfl ?_
  refine wc_bipush C (v := 24) dX2_init_46 (by decide) ?_
  refine wc_newa C (atype := .int) (ty := .int) (t0 := 0) (N := 24) rfl rfl (fun _ _ h => h) ar_int (nwa_int _) (by decide) (by decide) (by decide) (by rw [hR]; decide) (by rw [hR]; decide) dX2_init_48 (fun q5 => ?_)
  show WC Y 50 [some (.ref h), none] [.ref q5, .ref h] [(h, .inr (2, [.ref q0, .ref q1, .ref q2, .int 0, .ref q3, .ref q4, .null, .null, .null, .int 0, .null, .null, .null, .int 0])), (q0, .inl (Y.2.1.2.2 .int, 12, .inl (fun _ => 0))), (q1, .inl (Y.2.1.2.2 .boolean, 12, .inl (fun _ => 0))), (q2, .inl (Y.2.1.2.2 .int, 144, .inl (fun _ => 0))), (q3, .inl (Y.2.1.2.2 .int, 24, .inl (fun _ => 0))), (q4, .inl (Y.2.1.2.2 .int, 24, .inl (fun _ => 0))), (q5, .inl (Y.2.1.2.2 .int, 24, .inl (fun _ => 0)))] 6 (240)
  refine wc_putF C (p := 0) (j := 6) (hin rfl) rfl rfl in_X2 (by decide) tyX2 tyX2_ok nmX2 f_X2_28 rfl rfl (tyX2_ok 6 (by decide)) rfl rfl (Nat.le_of_ble_eq_true rfl) dX2_init_50 ?_
  show WC Y 53 [some (.ref h), none] [] [(h, .inr (2, [.ref q0, .ref q1, .ref q2, .int 0, .ref q3, .ref q4, .ref q5, .null, .null, .int 0, .null, .null, .null, .int 0])), (q0, .inl (Y.2.1.2.2 .int, 12, .inl (fun _ => 0))), (q1, .inl (Y.2.1.2.2 .boolean, 12, .inl (fun _ => 0))), (q2, .inl (Y.2.1.2.2 .int, 144, .inl (fun _ => 0))), (q3, .inl (Y.2.1.2.2 .int, 24, .inl (fun _ => 0))), (q4, .inl (Y.2.1.2.2 .int, 24, .inl (fun _ => 0))), (q5, .inl (Y.2.1.2.2 .int, 24, .inl (fun _ => 0)))] 6 (240)
  refine wc_aload_n C (i := 0) dX2_init_53 rfl rfl ?_
  refine wc_bipush C (v := 24) dX2_init_54 (by decide) ?_
  refine wc_newa C (atype := .int) (ty := .int) (t0 := 0) (N := 24) rfl rfl (fun _ _ h => h) ar_int (nwa_int _) (by decide) (by decide) (by decide) (by rw [hR]; decide) (by rw [hR]; decide) dX2_init_56 (fun q6 => ?_)
  show WC Y 58 [some (.ref h), none] [.ref q6, .ref h] [(h, .inr (2, [.ref q0, .ref q1, .ref q2, .int 0, .ref q3, .ref q4, .ref q5, .null, .null, .int 0, .null, .null, .null, .int 0])), (q0, .inl (Y.2.1.2.2 .int, 12, .inl (fun _ => 0))), (q1, .inl (Y.2.1.2.2 .boolean, 12, .inl (fun _ => 0))), (q2, .inl (Y.2.1.2.2 .int, 144, .inl (fun _ => 0))), (q3, .inl (Y.2.1.2.2 .int, 24, .inl (fun _ => 0))), (q4, .inl (Y.2.1.2.2 .int, 24, .inl (fun _ => 0))), (q5, .inl (Y.2.1.2.2 .int, 24, .inl (fun _ => 0))), (q6, .inl (Y.2.1.2.2 .int, 24, .inl (fun _ => 0)))] 7 (264)
  refine wc_putF C (p := 0) (j := 7) (hin rfl) rfl rfl in_X2 (by decide) tyX2 tyX2_ok nmX2 f_X2_31 rfl rfl (tyX2_ok 7 (by decide)) rfl rfl (Nat.le_of_ble_eq_true rfl) dX2_init_58 ?_
  show WC Y 61 [some (.ref h), none] [] [(h, .inr (2, [.ref q0, .ref q1, .ref q2, .int 0, .ref q3, .ref q4, .ref q5, .ref q6, .null, .int 0, .null, .null, .null, .int 0])), (q0, .inl (Y.2.1.2.2 .int, 12, .inl (fun _ => 0))), (q1, .inl (Y.2.1.2.2 .boolean, 12, .inl (fun _ => 0))), (q2, .inl (Y.2.1.2.2 .int, 144, .inl (fun _ => 0))), (q3, .inl (Y.2.1.2.2 .int, 24, .inl (fun _ => 0))), (q4, .inl (Y.2.1.2.2 .int, 24, .inl (fun _ => 0))), (q5, .inl (Y.2.1.2.2 .int, 24, .inl (fun _ => 0))), (q6, .inl (Y.2.1.2.2 .int, 24, .inl (fun _ => 0)))] 7 (264)
  refine wc_aload_n C (i := 0) dX2_init_61 rfl rfl ?_
  refine wc_bipush C (v := 24) dX2_init_62 (by decide) ?_
  refine wc_newa C (atype := .int) (ty := .int) (t0 := 0) (N := 24) rfl rfl (fun _ _ h => h) ar_int (nwa_int _) (by decide) (by decide) (by decide) (by rw [hR]; decide) (by rw [hR]; decide) dX2_init_64 (fun q7 => ?_)
  show WC Y 66 [some (.ref h), none] [.ref q7, .ref h] [(h, .inr (2, [.ref q0, .ref q1, .ref q2, .int 0, .ref q3, .ref q4, .ref q5, .ref q6, .null, .int 0, .null, .null, .null, .int 0])), (q0, .inl (Y.2.1.2.2 .int, 12, .inl (fun _ => 0))), (q1, .inl (Y.2.1.2.2 .boolean, 12, .inl (fun _ => 0))), (q2, .inl (Y.2.1.2.2 .int, 144, .inl (fun _ => 0))), (q3, .inl (Y.2.1.2.2 .int, 24, .inl (fun _ => 0))), (q4, .inl (Y.2.1.2.2 .int, 24, .inl (fun _ => 0))), (q5, .inl (Y.2.1.2.2 .int, 24, .inl (fun _ => 0))), (q6, .inl (Y.2.1.2.2 .int, 24, .inl (fun _ => 0))), (q7, .inl (Y.2.1.2.2 .int, 24, .inl (fun _ => 0)))] 8 (288)
  refine wc_putF C (p := 0) (j := 8) (hin rfl) rfl rfl in_X2 (by decide) tyX2 tyX2_ok nmX2 f_X2_34 rfl rfl (tyX2_ok 8 (by decide)) rfl rfl (Nat.le_of_ble_eq_true rfl) dX2_init_66 ?_
  show WC Y 69 [some (.ref h), none] [] [(h, .inr (2, [.ref q0, .ref q1, .ref q2, .int 0, .ref q3, .ref q4, .ref q5, .ref q6, .ref q7, .int 0, .null, .null, .null, .int 0])), (q0, .inl (Y.2.1.2.2 .int, 12, .inl (fun _ => 0))), (q1, .inl (Y.2.1.2.2 .boolean, 12, .inl (fun _ => 0))), (q2, .inl (Y.2.1.2.2 .int, 144, .inl (fun _ => 0))), (q3, .inl (Y.2.1.2.2 .int, 24, .inl (fun _ => 0))), (q4, .inl (Y.2.1.2.2 .int, 24, .inl (fun _ => 0))), (q5, .inl (Y.2.1.2.2 .int, 24, .inl (fun _ => 0))), (q6, .inl (Y.2.1.2.2 .int, 24, .inl (fun _ => 0))), (q7, .inl (Y.2.1.2.2 .int, 24, .inl (fun _ => 0)))] 8 (288)
  refine wc_aload_n C (i := 0) dX2_init_69 rfl rfl ?_
  refine wc_bipush C (v := 40) dX2_init_70 (by decide) ?_
  refine wc_newa C (atype := .int) (ty := .int) (t0 := 0) (N := 40) rfl rfl (fun _ _ h => h) ar_int (nwa_int _) (by decide) (by decide) (by decide) (by rw [hR]; decide) (by rw [hR]; decide) dX2_init_72 (fun q8 => ?_)
  show WC Y 74 [some (.ref h), none] [.ref q8, .ref h] [(h, .inr (2, [.ref q0, .ref q1, .ref q2, .int 0, .ref q3, .ref q4, .ref q5, .ref q6, .ref q7, .int 0, .null, .null, .null, .int 0])), (q0, .inl (Y.2.1.2.2 .int, 12, .inl (fun _ => 0))), (q1, .inl (Y.2.1.2.2 .boolean, 12, .inl (fun _ => 0))), (q2, .inl (Y.2.1.2.2 .int, 144, .inl (fun _ => 0))), (q3, .inl (Y.2.1.2.2 .int, 24, .inl (fun _ => 0))), (q4, .inl (Y.2.1.2.2 .int, 24, .inl (fun _ => 0))), (q5, .inl (Y.2.1.2.2 .int, 24, .inl (fun _ => 0))), (q6, .inl (Y.2.1.2.2 .int, 24, .inl (fun _ => 0))), (q7, .inl (Y.2.1.2.2 .int, 24, .inl (fun _ => 0))), (q8, .inl (Y.2.1.2.2 .int, 40, .inl (fun _ => 0)))] 9 (328)
  refine wc_putF C (p := 0) (j := 10) (hin rfl) rfl rfl in_X2 (by decide) tyX2 tyX2_ok nmX2 f_X2_37 rfl rfl (tyX2_ok 10 (by decide)) rfl rfl (Nat.le_of_ble_eq_true rfl) dX2_init_74 ?_
  show WC Y 77 [some (.ref h), none] [] [(h, .inr (2, [.ref q0, .ref q1, .ref q2, .int 0, .ref q3, .ref q4, .ref q5, .ref q6, .ref q7, .int 0, .ref q8, .null, .null, .int 0])), (q0, .inl (Y.2.1.2.2 .int, 12, .inl (fun _ => 0))), (q1, .inl (Y.2.1.2.2 .boolean, 12, .inl (fun _ => 0))), (q2, .inl (Y.2.1.2.2 .int, 144, .inl (fun _ => 0))), (q3, .inl (Y.2.1.2.2 .int, 24, .inl (fun _ => 0))), (q4, .inl (Y.2.1.2.2 .int, 24, .inl (fun _ => 0))), (q5, .inl (Y.2.1.2.2 .int, 24, .inl (fun _ => 0))), (q6, .inl (Y.2.1.2.2 .int, 24, .inl (fun _ => 0))), (q7, .inl (Y.2.1.2.2 .int, 24, .inl (fun _ => 0))), (q8, .inl (Y.2.1.2.2 .int, 40, .inl (fun _ => 0)))] 9 (328)
  refine wc_aload_n C (i := 0) dX2_init_77 rfl rfl ?_
  refine wc_bipush C (v := 40) dX2_init_78 (by decide) ?_
  refine wc_newa C (atype := .int) (ty := .int) (t0 := 0) (N := 40) rfl rfl (fun _ _ h => h) ar_int (nwa_int _) (by decide) (by decide) (by decide) (by rw [hR]; decide) (by rw [hR]; decide) dX2_init_80 (fun q9 => ?_)
  show WC Y 82 [some (.ref h), none] [.ref q9, .ref h] [(h, .inr (2, [.ref q0, .ref q1, .ref q2, .int 0, .ref q3, .ref q4, .ref q5, .ref q6, .ref q7, .int 0, .ref q8, .null, .null, .int 0])), (q0, .inl (Y.2.1.2.2 .int, 12, .inl (fun _ => 0))), (q1, .inl (Y.2.1.2.2 .boolean, 12, .inl (fun _ => 0))), (q2, .inl (Y.2.1.2.2 .int, 144, .inl (fun _ => 0))), (q3, .inl (Y.2.1.2.2 .int, 24, .inl (fun _ => 0))), (q4, .inl (Y.2.1.2.2 .int, 24, .inl (fun _ => 0))), (q5, .inl (Y.2.1.2.2 .int, 24, .inl (fun _ => 0))), (q6, .inl (Y.2.1.2.2 .int, 24, .inl (fun _ => 0))), (q7, .inl (Y.2.1.2.2 .int, 24, .inl (fun _ => 0))), (q8, .inl (Y.2.1.2.2 .int, 40, .inl (fun _ => 0))), (q9, .inl (Y.2.1.2.2 .int, 40, .inl (fun _ => 0)))] 10 (368)
  refine wc_putF C (p := 0) (j := 11) (hin rfl) rfl rfl in_X2 (by decide) tyX2 tyX2_ok nmX2 f_X2_40 rfl rfl (tyX2_ok 11 (by decide)) rfl rfl (Nat.le_of_ble_eq_true rfl) dX2_init_82 ?_
  show WC Y 85 [some (.ref h), none] [] [(h, .inr (2, [.ref q0, .ref q1, .ref q2, .int 0, .ref q3, .ref q4, .ref q5, .ref q6, .ref q7, .int 0, .ref q8, .ref q9, .null, .int 0])), (q0, .inl (Y.2.1.2.2 .int, 12, .inl (fun _ => 0))), (q1, .inl (Y.2.1.2.2 .boolean, 12, .inl (fun _ => 0))), (q2, .inl (Y.2.1.2.2 .int, 144, .inl (fun _ => 0))), (q3, .inl (Y.2.1.2.2 .int, 24, .inl (fun _ => 0))), (q4, .inl (Y.2.1.2.2 .int, 24, .inl (fun _ => 0))), (q5, .inl (Y.2.1.2.2 .int, 24, .inl (fun _ => 0))), (q6, .inl (Y.2.1.2.2 .int, 24, .inl (fun _ => 0))), (q7, .inl (Y.2.1.2.2 .int, 24, .inl (fun _ => 0))), (q8, .inl (Y.2.1.2.2 .int, 40, .inl (fun _ => 0))), (q9, .inl (Y.2.1.2.2 .int, 40, .inl (fun _ => 0)))] 10 (368)
  refine wc_aload_n C (i := 0) dX2_init_85 rfl rfl ?_
  refine wc_bipush C (v := 40) dX2_init_86 (by decide) ?_
  refine wc_newa C (atype := .int) (ty := .int) (t0 := 0) (N := 40) rfl rfl (fun _ _ h => h) ar_int (nwa_int _) (by decide) (by decide) (by decide) (by rw [hR]; decide) (by rw [hR]; decide) dX2_init_88 (fun q10 => ?_)
  show WC Y 90 [some (.ref h), none] [.ref q10, .ref h] [(h, .inr (2, [.ref q0, .ref q1, .ref q2, .int 0, .ref q3, .ref q4, .ref q5, .ref q6, .ref q7, .int 0, .ref q8, .ref q9, .null, .int 0])), (q0, .inl (Y.2.1.2.2 .int, 12, .inl (fun _ => 0))), (q1, .inl (Y.2.1.2.2 .boolean, 12, .inl (fun _ => 0))), (q2, .inl (Y.2.1.2.2 .int, 144, .inl (fun _ => 0))), (q3, .inl (Y.2.1.2.2 .int, 24, .inl (fun _ => 0))), (q4, .inl (Y.2.1.2.2 .int, 24, .inl (fun _ => 0))), (q5, .inl (Y.2.1.2.2 .int, 24, .inl (fun _ => 0))), (q6, .inl (Y.2.1.2.2 .int, 24, .inl (fun _ => 0))), (q7, .inl (Y.2.1.2.2 .int, 24, .inl (fun _ => 0))), (q8, .inl (Y.2.1.2.2 .int, 40, .inl (fun _ => 0))), (q9, .inl (Y.2.1.2.2 .int, 40, .inl (fun _ => 0))), (q10, .inl (Y.2.1.2.2 .int, 40, .inl (fun _ => 0)))] 11 (408)
  refine wc_putF C (p := 0) (j := 12) (hin rfl) rfl rfl in_X2 (by decide) tyX2 tyX2_ok nmX2 f_X2_43 rfl rfl (tyX2_ok 12 (by decide)) rfl rfl (Nat.le_of_ble_eq_true rfl) dX2_init_90 ?_
  show WC Y 93 [some (.ref h), none] [] [(h, .inr (2, [.ref q0, .ref q1, .ref q2, .int 0, .ref q3, .ref q4, .ref q5, .ref q6, .ref q7, .int 0, .ref q8, .ref q9, .ref q10, .int 0])), (q0, .inl (Y.2.1.2.2 .int, 12, .inl (fun _ => 0))), (q1, .inl (Y.2.1.2.2 .boolean, 12, .inl (fun _ => 0))), (q2, .inl (Y.2.1.2.2 .int, 144, .inl (fun _ => 0))), (q3, .inl (Y.2.1.2.2 .int, 24, .inl (fun _ => 0))), (q4, .inl (Y.2.1.2.2 .int, 24, .inl (fun _ => 0))), (q5, .inl (Y.2.1.2.2 .int, 24, .inl (fun _ => 0))), (q6, .inl (Y.2.1.2.2 .int, 24, .inl (fun _ => 0))), (q7, .inl (Y.2.1.2.2 .int, 24, .inl (fun _ => 0))), (q8, .inl (Y.2.1.2.2 .int, 40, .inl (fun _ => 0))), (q9, .inl (Y.2.1.2.2 .int, 40, .inl (fun _ => 0))), (q10, .inl (Y.2.1.2.2 .int, 40, .inl (fun _ => 0)))] 11 (408)
  refine wc_aload_n C (i := 0) dX2_init_93 rfl rfl ?_
  refine wc_getR C (p := 0) (j := 2) rfl rfl in_X2 (by decide) rfl f_X2_19 dX2_init_94 ?_
  refine wc_ldc C (v := 1000000) k_X2_46 dX2_init_97 ?_
  refine wc_callS C (p := 3) (wr := [(h, .inr (2, [.ref q0, .ref q1, .ref q2, .int 0, .ref q3, .ref q4, .ref q5, .ref q6, .ref q7, .int 0, .ref q8, .ref q9, .ref q10, .int 0])), (q0, .inl (Y.2.1.2.2 .int, 12, .inl (fun _ => 0))), (q1, .inl (Y.2.1.2.2 .boolean, 12, .inl (fun _ => 0))), (q3, .inl (Y.2.1.2.2 .int, 24, .inl (fun _ => 0))), (q4, .inl (Y.2.1.2.2 .int, 24, .inl (fun _ => 0))), (q5, .inl (Y.2.1.2.2 .int, 24, .inl (fun _ => 0))), (q6, .inl (Y.2.1.2.2 .int, 24, .inl (fun _ => 0))), (q7, .inl (Y.2.1.2.2 .int, 24, .inl (fun _ => 0))), (q8, .inl (Y.2.1.2.2 .int, 40, .inl (fun _ => 0))), (q9, .inl (Y.2.1.2.2 .int, 40, .inl (fun _ => 0))), (q10, .inl (Y.2.1.2.2 .int, 40, .inl (fun _ => 0)))]) [0, 1, 2, 4, 5, 6, 7, 8, 9, 10, 11] s_X2_47 t_J7_fill_53178 (ii_fill (by decide)) rfl rfl (by decide) (by decide) dX2_init_99 rfl rfl (Nat.le_of_ble_eq_true rfl) (by rw [hR]; decide) (by rw [hR]; decide) (by rw [hR]; decide) (fun w1 hF => ?_)
  obtain ⟨f0, hf0, rfl⟩ := hF
  show WC Y 102 [some (.ref h), none] [] [(h, .inr (2, [.ref q0, .ref q1, .ref q2, .int 0, .ref q3, .ref q4, .ref q5, .ref q6, .ref q7, .int 0, .ref q8, .ref q9, .ref q10, .int 0])), (q0, .inl (Y.2.1.2.2 .int, 12, .inl (fun _ => 0))), (q1, .inl (Y.2.1.2.2 .boolean, 12, .inl (fun _ => 0))), (q3, .inl (Y.2.1.2.2 .int, 24, .inl (fun _ => 0))), (q4, .inl (Y.2.1.2.2 .int, 24, .inl (fun _ => 0))), (q5, .inl (Y.2.1.2.2 .int, 24, .inl (fun _ => 0))), (q6, .inl (Y.2.1.2.2 .int, 24, .inl (fun _ => 0))), (q7, .inl (Y.2.1.2.2 .int, 24, .inl (fun _ => 0))), (q8, .inl (Y.2.1.2.2 .int, 40, .inl (fun _ => 0))), (q9, .inl (Y.2.1.2.2 .int, 40, .inl (fun _ => 0))), (q10, .inl (Y.2.1.2.2 .int, 40, .inl (fun _ => 0))), (q2, .inl (Y.2.1.2.2 .int, 144, .inl f0))] 11 (408)
  refine wc_iconst C (v := 0) dX2_init_102 (by decide) ?_
  have loop : ∀ (r k : Nat) (f : Nat → Int32), k + r = 12 → (∀ j, j < 144 → f j = if j % 13 = 0 ∧ j < 13 * k then 0 else 1000000) → WC Y 104 [some (.ref h), some (.int (nI k))] [] [(h, .inr (2, [.ref q0, .ref q1, .ref q2, .int 0, .ref q3, .ref q4, .ref q5, .ref q6, .ref q7, .int 0, .ref q8, .ref q9, .ref q10, .int 0])),
  (q0, .inl (Y.2.1.2.2 .int, 12, .inl (fun _ => 0))),
  (q1, .inl (Y.2.1.2.2 .boolean, 12, .inl (fun _ => 0))),
  (q3, .inl (Y.2.1.2.2 .int, 24, .inl (fun _ => 0))),
  (q4, .inl (Y.2.1.2.2 .int, 24, .inl (fun _ => 0))),
  (q5, .inl (Y.2.1.2.2 .int, 24, .inl (fun _ => 0))),
  (q6, .inl (Y.2.1.2.2 .int, 24, .inl (fun _ => 0))),
  (q7, .inl (Y.2.1.2.2 .int, 24, .inl (fun _ => 0))),
  (q8, .inl (Y.2.1.2.2 .int, 40, .inl (fun _ => 0))),
  (q9, .inl (Y.2.1.2.2 .int, 40, .inl (fun _ => 0))),
  (q10, .inl (Y.2.1.2.2 .int, 40, .inl (fun _ => 0))),
  (q2, .inl (Y.2.1.2.2 .int, 144, .inl f))] 11 408 := by
    intro r
    induction r with
    | zero =>
      intro k f hk hf
      refine wc_iload_n C (i := 1) dX2_init_104 rfl rfl ?_
      refine wc_bipush C (v := 12) dX2_init_105 (by decide) ?_
      refine wc_icmp_ge C (tgt := 128) dX2_init_107 (by decide) (fun c => ?_) (fun c => ?_)
      · refine hret _ _ _ dX2_init_128 ⟨q0, q1, q2, q3, q4, q5, q6, q7, q8, q9, q10, f, fun j hj => ?_, rfl⟩
        rw [hf j hj]
        by_cases z : j % 13 = 0
        · rw [if_pos ⟨z, by omega⟩, if_pos z]
        · rw [if_neg (fun q => z q.1), if_neg z]
      · exact absurd (nI_le (a := 12) (b := k) (by omega) (by omega)) c
    | succ r ih =>
      intro k f hk hf
      refine wc_iload_n C (i := 1) dX2_init_104 rfl rfl ?_
      refine wc_bipush C (v := 12) dX2_init_105 (by decide) ?_
      refine wc_icmp_ge C (tgt := 128) dX2_init_107 (by decide) (fun c => ?_) (fun c => ?_)
      · exact absurd c (nI_ge (a := k) (b := 12) (by omega) (by omega))
      · refine wc_aload_n C (i := 0) dX2_init_110 rfl rfl ?_
        refine wc_getR C (p := 0) (j := 2) rfl rfl in_X2 (by decide) rfl f_X2_19 dX2_init_111 ?_
        refine wc_iload_n C (i := 1) dX2_init_114 rfl rfl ?_
        refine wc_bipush C (v := 12) dX2_init_115 (by decide) ?_
        refine wc_imul C dX2_init_117 ?_
        refine wc_iload_n C (i := 1) dX2_init_118 rfl rfl ?_
        refine wc_iadd C dX2_init_119 ?_
        refine wc_iconst C (v := 0) dX2_init_120 (by decide) ?_
        have e9 : nI k * 12 + nI k = nI (13 * k) := by
          rw [show (12 : Int32) = nI 12 from rfl, pk_mul, nI_add]
          congr 1
          omega
        rw [e9]
        refine wc_iast C (p := 11) rfl (vp_in_nI (by omega) (by omega)) dX2_init_121 ?_
        refine wc_iinc C (i := 1) dX2_init_122 rfl (fp_inc1 _) (by rw [hn]; decide) rfl rfl ?_
        refine wc_goto C (tgt := 104) dX2_init_125 (by decide) ?_
        have := ih (k + 1) (upd f (nI (13 * k)).toNatClampNeg 0) (by omega) (fun j hj => by
          rw [nI_clamp (by omega)]
          by_cases z : j = 13 * k
          · subst z
            rw [if_pos ⟨by omega, by omega⟩]
            simp [upd]
          · simp only [upd, z, if_false]
            rw [hf j hj]
            by_cases z2 : j % 13 = 0 ∧ j < 13 * k
            · rw [if_pos z2, if_pos ⟨z2.1, by omega⟩]
            · rw [if_neg z2, if_neg (fun z3 => z2 ⟨z3.1, by omega⟩)])
        rw [nI_succ] at this
        exact this
  refine wc_istore_n C (i := 1) dX2_init_103 rfl (by rw [hn]; decide) rfl rfl ?_
  exact loop 12 0 f0 (by omega) (fun j hj => by rw [hf0 j hj, if_neg (fun z => by omega)])
