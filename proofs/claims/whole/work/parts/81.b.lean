def mk_X1 (E : fp_E) (h : Nat) (q0 : Nat) (q1 : Nat) (q2 : Nat) (q3 : Nat) (q4 : Nat) : va_W := [(h, .inr (1, [.ref q0, .ref q1, .ref q2, .ref q3, .ref q4, .int 0])),
  (q0, .inl (E.2.2 .int, 60, .inl (fun _ => 0))),
  (q1, .inl (E.2.2 .int, 60, .inl (fun _ => 0))),
  (q2, .inl (E.2.2 .int, 60, .inl (fun _ => 0))),
  (q3, .inl (E.2.2 .int, 60, .inl (fun _ => 0))),
  (q4, .inl (E.2.2 .int, 60, .inl (fun _ => 0)))]
set_option maxHeartbeats 4000000 in
set_option maxRecDepth 100000 in
theorem ii_X1 {l : Launch} {E : fp_E} {lo h : Nat} : fp_I l E lo yX1_init cX1_init 1 1 5 300 [.ref h] [(h, .inr (1, [.null, .null, .null, .null, .null, .int 0]))] (fun w1 => ∃ (q0 : Nat) (q1 : Nat) (q2 : Nat) (q3 : Nat) (q4 : Nat), w1 = mk_X1 E h q0 q1 q2 q3 q4) := by
  refine fp_enterI rfl [some (.ref h)] (Nat.le_of_ble_eq_true rfl) (fun q hq => hq) (fun Y hE hl hlo hn hR hin C hret => ?_)
  subst hE hl hlo
  refine wc_aload_n C (i := 0) dX1_init_0 rfl rfl ?_
  refine wc_obj C ob_X1_3 ob_i ob_c dX1_init_1 (by rw [hR]; decide) (by rw [hR]; decide) (Nat.le_of_ble_eq_true rfl) ?_
  refine wc_aload_n C (i := 0) dX1_init_4 rfl rfl ?_
  refine wc_bipush C (v := 60) dX1_init_5 (by decide) ?_
  refine wc_newa C (atype := .int) (ty := .int) (t0 := 0) (N := 60) rfl rfl (fun _ _ h => h) ar_int (nwa_int _) (by decide) (by decide) (by decide) (by rw [hR]; decide) (by rw [hR]; decide) dX1_init_7 (fun q0 => ?_)
  show WC Y 9 [some (.ref h)] [.ref q0, .ref h] [(h, .inr (1, [.null, .null, .null, .null, .null, .int 0])), (q0, .inl (Y.2.1.2.2 .int, 60, .inl (fun _ => 0)))] 1 (60)
  refine wc_putF C (p := 0) (j := 0) (hin rfl) rfl rfl in_X1 (by decide) tyX1 tyX1_ok nmX1 f_X1_9 rfl rfl (tyX1_ok 0 (by decide)) rfl rfl (Nat.le_of_ble_eq_true rfl) dX1_init_9 ?_
  show WC Y 12 [some (.ref h)] [] [(h, .inr (1, [.ref q0, .null, .null, .null, .null, .int 0])), (q0, .inl (Y.2.1.2.2 .int, 60, .inl (fun _ => 0)))] 1 (60)
  refine wc_aload_n C (i := 0) dX1_init_12 rfl rfl ?_
  refine wc_bipush C (v := 60) dX1_init_13 (by decide) ?_
  refine wc_newa C (atype := .int) (ty := .int) (t0 := 0) (N := 60) rfl rfl (fun _ _ h => h) ar_int (nwa_int _) (by decide) (by decide) (by decide) (by rw [hR]; decide) (by rw [hR]; decide) dX1_init_15 (fun q1 => ?_)
  show WC Y 17 [some (.ref h)] [.ref q1, .ref h] [(h, .inr (1, [.ref q0, .null, .null, .null, .null, .int 0])), (q0, .inl (Y.2.1.2.2 .int, 60, .inl (fun _ => 0))), (q1, .inl (Y.2.1.2.2 .int, 60, .inl (fun _ => 0)))] 2 (120)
  refine wc_putF C (p := 0) (j := 1) (hin rfl) rfl rfl in_X1 (by decide) tyX1 tyX1_ok nmX1 f_X1_15 rfl rfl (tyX1_ok 1 (by decide)) rfl rfl (Nat.le_of_ble_eq_true rfl) dX1_init_17 ?_
  show WC Y 20 [some (.ref h)] [] [(h, .inr (1, [.ref q0, .ref q1, .null, .null, .null, .int 0])), (q0, .inl (Y.2.1.2.2 .int, 60, .inl (fun _ => 0))), (q1, .inl (Y.2.1.2.2 .int, 60, .inl (fun _ => 0)))] 2 (120)
  refine wc_aload_n C (i := 0) dX1_init_20 rfl rfl ?_
  refine wc_bipush C (v := 60) dX1_init_21 (by decide) ?_
  refine wc_newa C (atype := .int) (ty := .int) (t0 := 0) (N := 60) rfl rfl (fun _ _ h => h) ar_int (nwa_int _) (by decide) (by decide) (by decide) (by rw [hR]; decide) (by rw [hR]; decide) dX1_init_23 (fun q2 => ?_)
  show WC Y 25 [some (.ref h)] [.ref q2, .ref h] [(h, .inr (1, [.ref q0, .ref q1, .null, .null, .null, .int 0])), (q0, .inl (Y.2.1.2.2 .int, 60, .inl (fun _ => 0))), (q1, .inl (Y.2.1.2.2 .int, 60, .inl (fun _ => 0))), (q2, .inl (Y.2.1.2.2 .int, 60, .inl (fun _ => 0)))] 3 (180)
  refine wc_putF C (p := 0) (j := 2) (hin rfl) rfl rfl in_X1 (by decide) tyX1 tyX1_ok nmX1 f_X1_18 rfl rfl (tyX1_ok 2 (by decide)) rfl rfl (Nat.le_of_ble_eq_true rfl) dX1_init_25 ?_
  show WC Y 28 [some (.ref h)] [] [(h, .inr (1, [.ref q0, .ref q1, .ref q2, .null, .null, .int 0])), (q0, .inl (Y.2.1.2.2 .int, 60, .inl (fun _ => 0))), (q1, .inl (Y.2.1.2.2 .int, 60, .inl (fun _ => 0))), (q2, .inl (Y.2.1.2.2 .int, 60, .inl (fun _ => 0)))] 3 (180)
  refine wc_aload_n C (i := 0) dX1_init_28 rfl rfl ?_
  refine wc_bipush C (v := 60) dX1_init_29 (by decide) ?_
  refine wc_newa C (atype := .int) (ty := .int) (t0 := 0) (N := 60) rfl rfl (fun _ _ h => h) ar_int (nwa_int _) (by decide) (by decide) (by decide) (by rw [hR]; decide) (by rw [hR]; decide) dX1_init_31 (fun q3 => ?_)
  show WC Y 33 [some (.ref h)] [.ref q3, .ref h] [(h, .inr (1, [.ref q0, .ref q1, .ref q2, .null, .null, .int 0])), (q0, .inl (Y.2.1.2.2 .int, 60, .inl (fun _ => 0))), (q1, .inl (Y.2.1.2.2 .int, 60, .inl (fun _ => 0))), (q2, .inl (Y.2.1.2.2 .int, 60, .inl (fun _ => 0))), (q3, .inl (Y.2.1.2.2 .int, 60, .inl (fun _ => 0)))] 4 (240)
  refine wc_putF C (p := 0) (j := 3) (hin rfl) rfl rfl in_X1 (by decide) tyX1 tyX1_ok nmX1 f_X1_21 rfl rfl (tyX1_ok 3 (by decide)) rfl rfl (Nat.le_of_ble_eq_true rfl) dX1_init_33 ?_
  show WC Y 36 [some (.ref h)] [] [(h, .inr (1, [.ref q0, .ref q1, .ref q2, .ref q3, .null, .int 0])), (q0, .inl (Y.2.1.2.2 .int, 60, .inl (fun _ => 0))), (q1, .inl (Y.2.1.2.2 .int, 60, .inl (fun _ => 0))), (q2, .inl (Y.2.1.2.2 .int, 60, .inl (fun _ => 0))), (q3, .inl (Y.2.1.2.2 .int, 60, .inl (fun _ => 0)))] 4 (240)
  refine wc_aload_n C (i := 0) dX1_init_36 rfl rfl ?_
  refine wc_bipush C (v := 60) dX1_init_37 (by decide) ?_
  refine wc_newa C (atype := .int) (ty := .int) (t0 := 0) (N := 60) rfl rfl (fun _ _ h => h) ar_int (nwa_int _) (by decide) (by decide) (by decide) (by rw [hR]; decide) (by rw [hR]; decide) dX1_init_39 (fun q4 => ?_)
  show WC Y 41 [some (.ref h)] [.ref q4, .ref h] [(h, .inr (1, [.ref q0, .ref q1, .ref q2, .ref q3, .null, .int 0])), (q0, .inl (Y.2.1.2.2 .int, 60, .inl (fun _ => 0))), (q1, .inl (Y.2.1.2.2 .int, 60, .inl (fun _ => 0))), (q2, .inl (Y.2.1.2.2 .int, 60, .inl (fun _ => 0))), (q3, .inl (Y.2.1.2.2 .int, 60, .inl (fun _ => 0))), (q4, .inl (Y.2.1.2.2 .int, 60, .inl (fun _ => 0)))] 5 (300)
  refine wc_putF C (p := 0) (j := 4) (hin rfl) rfl rfl in_X1 (by decide) tyX1 tyX1_ok nmX1 f_X1_24 rfl rfl (tyX1_ok 4 (by decide)) rfl rfl (Nat.le_of_ble_eq_true rfl) dX1_init_41 ?_
  show WC Y 44 [some (.ref h)] [] [(h, .inr (1, [.ref q0, .ref q1, .ref q2, .ref q3, .ref q4, .int 0])), (q0, .inl (Y.2.1.2.2 .int, 60, .inl (fun _ => 0))), (q1, .inl (Y.2.1.2.2 .int, 60, .inl (fun _ => 0))), (q2, .inl (Y.2.1.2.2 .int, 60, .inl (fun _ => 0))), (q3, .inl (Y.2.1.2.2 .int, 60, .inl (fun _ => 0))), (q4, .inl (Y.2.1.2.2 .int, 60, .inl (fun _ => 0)))] 5 (300)
  exact hret _ _ _ dX1_init_44 ⟨q0, q1, q2, q3, q4, rfl⟩
def mk_X5 (E : fp_E) (h : Nat) (q0 : Nat) (q1 : Nat) : va_W := [(h, .inr (5, [.ref q0, .ref q1, .int 0, .int 0, .int 0, .int 0, .int 0])),
  (q0, .inl (E.2.2 .byte, 60, .inl (fun _ => 0))),
  (q1, .inl (E.2.2 .int, 60, .inl (fun _ => 0)))]
set_option maxHeartbeats 4000000 in
set_option maxRecDepth 100000 in
theorem ii_X5 {l : Launch} {E : fp_E} {lo h : Nat} : fp_I l E lo yX5_init cX5_init 1 1 2 120 [.ref h] [(h, .inr (5, [.null, .null, .int 0, .int 0, .int 0, .int 0, .int 0]))] (fun w1 => ∃ (q0 : Nat) (q1 : Nat), w1 = mk_X5 E h q0 q1) := by
  refine fp_enterI rfl [some (.ref h)] (Nat.le_of_ble_eq_true rfl) (fun q hq => hq) (fun Y hE hl hlo hn hR hin C hret => ?_)
  subst hE hl hlo
  refine wc_aload_n C (i := 0) dX5_init_0 rfl rfl ?_
  refine wc_obj C ob_X5_5 ob_i ob_c dX5_init_1 (by rw [hR]; decide) (by rw [hR]; decide) (Nat.le_of_ble_eq_true rfl) ?_
  refine wc_aload_n C (i := 0) dX5_init_4 rfl rfl ?_
  refine wc_bipush C (v := 60) dX5_init_5 (by decide) ?_
  refine wc_newa C (atype := .byte) (ty := .byte) (t0 := 2) (N := 60) rfl rfl (fun _ _ h => h) ar_byte (nwa_byte _) (by decide) (by decide) (by decide) (by rw [hR]; decide) (by rw [hR]; decide) dX5_init_7 (fun q0 => ?_)
  show WC Y 9 [some (.ref h)] [.ref q0, .ref h] [(h, .inr (5, [.null, .null, .int 0, .int 0, .int 0, .int 0, .int 0])), (q0, .inl (Y.2.1.2.2 .byte, 60, .inl (fun _ => 0)))] 1 (60)
  refine wc_putF C (p := 0) (j := 0) (hin rfl) rfl rfl in_X5 (by decide) tyX5 tyX5_ok nmX5 f_X5_11 rfl rfl (tyX5_ok 0 (by decide)) rfl rfl (Nat.le_of_ble_eq_true rfl) dX5_init_9 ?_
  show WC Y 12 [some (.ref h)] [] [(h, .inr (5, [.ref q0, .null, .int 0, .int 0, .int 0, .int 0, .int 0])), (q0, .inl (Y.2.1.2.2 .byte, 60, .inl (fun _ => 0)))] 1 (60)
  refine wc_aload_n C (i := 0) dX5_init_12 rfl rfl ?_
  refine wc_bipush C (v := 60) dX5_init_13 (by decide) ?_
  refine wc_newa C (atype := .int) (ty := .int) (t0 := 0) (N := 60) rfl rfl (fun _ _ h => h) ar_int (nwa_int _) (by decide) (by decide) (by decide) (by rw [hR]; decide) (by rw [hR]; decide) dX5_init_15 (fun q1 => ?_)
  show WC Y 17 [some (.ref h)] [.ref q1, .ref h] [(h, .inr (5, [.ref q0, .null, .int 0, .int 0, .int 0, .int 0, .int 0])), (q0, .inl (Y.2.1.2.2 .byte, 60, .inl (fun _ => 0))), (q1, .inl (Y.2.1.2.2 .int, 60, .inl (fun _ => 0)))] 2 (120)
  refine wc_putF C (p := 0) (j := 1) (hin rfl) rfl rfl in_X5 (by decide) tyX5 tyX5_ok nmX5 f_X5_15 rfl rfl (tyX5_ok 1 (by decide)) rfl rfl (Nat.le_of_ble_eq_true rfl) dX5_init_17 ?_
  show WC Y 20 [some (.ref h)] [] [(h, .inr (5, [.ref q0, .ref q1, .int 0, .int 0, .int 0, .int 0, .int 0])), (q0, .inl (Y.2.1.2.2 .byte, 60, .inl (fun _ => 0))), (q1, .inl (Y.2.1.2.2 .int, 60, .inl (fun _ => 0)))] 2 (120)
  exact hret _ _ _ dX5_init_20 ⟨q0, q1, rfl⟩
def mk_X6 (E : fp_E) (h : Nat) (q0 : Nat) (q1 : Nat) (q2 : Nat) (q3 : Nat) (q4 : Nat) (q5 : Nat) (q6 : Nat) (q7 : Nat) (q8 : Nat) (q9 : Nat) : va_W := [(h, .inr (6, [.ref q0, .ref q1, .ref q2, .ref q3, .int 0, .ref q4, .ref q5, .int 0, .ref q6, .ref q7, .ref q8, .ref q9, .int 0])),
  (q0, .inl (E.2.2 .int, 60, .inl (fun _ => 0))),
  (q1, .inl (E.2.2 .int, 60, .inl (fun _ => 0))),
  (q2, .inl (E.2.2 .int, 60, .inl (fun _ => 0))),
  (q3, .inl (E.2.2 .int, 60, .inl (fun _ => 0))),
  (q4, .inl (E.2.2 .int, 40, .inl (fun _ => 0))),
  (q5, .inl (E.2.2 .int, 40, .inl (fun _ => 0))),
  (q6, .inl (E.2.2 .int, 80, .inl (fun _ => 0))),
  (q7, .inl (E.2.2 .int, 80, .inl (fun _ => 0))),
  (q8, .inl (E.2.2 .int, 80, .inl (fun _ => 0))),
  (q9, .inl (E.2.2 .int, 80, .inl (fun _ => 0)))]
set_option maxHeartbeats 4000000 in
set_option maxRecDepth 100000 in
theorem ii_X6 {l : Launch} {E : fp_E} {lo h : Nat} : fp_I l E lo yX6_init cX6_init 1 1 10 640 [.ref h] [(h, .inr (6, [.null, .null, .null, .null, .int 0, .null, .null, .int 0, .null, .null, .null, .null, .int 0]))] (fun w1 => ∃ (q0 : Nat) (q1 : Nat) (q2 : Nat) (q3 : Nat) (q4 : Nat) (q5 : Nat) (q6 : Nat) (q7 : Nat) (q8 : Nat) (q9 : Nat), w1 = mk_X6 E h q0 q1 q2 q3 q4 q5 q6 q7 q8 q9) := by
  refine fp_enterI rfl [some (.ref h)] (Nat.le_of_ble_eq_true rfl) (fun q hq => hq) (fun Y hE hl hlo hn hR hin C hret => ?_)
  subst hE hl hlo
  refine wc_aload_n C (i := 0) dX6_init_0 rfl rfl ?_
  refine wc_obj C ob_X6_3 ob_i ob_c dX6_init_1 (by rw [hR]; decide) (by rw [hR]; decide) (Nat.le_of_ble_eq_true rfl) ?_
  refine wc_aload_n C (i := 0) dX6_init_4 rfl rfl ?_
  refine wc_bipush C (v := 60) dX6_init_5 (by decide) ?_
  refine wc_newa C (atype := .int) (ty := .int) (t0 := 0) (N := 60) rfl rfl (fun _ _ h => h) ar_int (nwa_int _) (by decide) (by decide) (by decide) (by rw [hR]; decide) (by rw [hR]; decide) dX6_init_7 (fun q0 => ?_)
  show WC Y 9 [some (.ref h)] [.ref q0, .ref h] [(h, .inr (6, [.null, .null, .null, .null, .int 0, .null, .null, .int 0, .null, .null, .null, .null, .int 0])), (q0, .inl (Y.2.1.2.2 .int, 60, .inl (fun _ => 0)))] 1 (60)
  refine wc_putF C (p := 0) (j := 0) (hin rfl) rfl rfl in_X6 (by decide) tyX6 tyX6_ok nmX6 f_X6_9 rfl rfl (tyX6_ok 0 (by decide)) rfl rfl (Nat.le_of_ble_eq_true rfl) dX6_init_9 ?_
  show WC Y 12 [some (.ref h)] [] [(h, .inr (6, [.ref q0, .null, .null, .null, .int 0, .null, .null, .int 0, .null, .null, .null, .null, .int 0])), (q0, .inl (Y.2.1.2.2 .int, 60, .inl (fun _ => 0)))] 1 (60)
  refine wc_aload_n C (i := 0) dX6_init_12 rfl rfl ?_
  refine wc_bipush C (v := 60) dX6_init_13 (by decide) ?_
  refine wc_newa C (atype := .int) (ty := .int) (t0 := 0) (N := 60) rfl rfl (fun _ _ h => h) ar_int (nwa_int _) (by decide) (by decide) (by decide) (by rw [hR]; decide) (by rw [hR]; decide) dX6_init_15 (fun q1 => ?_)
  show WC Y 17 [some (.ref h)] [.ref q1, .ref h] [(h, .inr (6, [.ref q0, .null, .null, .null, .int 0, .null, .null, .int 0, .null, .null, .null, .null, .int 0])), (q0, .inl (Y.2.1.2.2 .int, 60, .inl (fun _ => 0))), (q1, .inl (Y.2.1.2.2 .int, 60, .inl (fun _ => 0)))] 2 (120)
  refine wc_putF C (p := 0) (j := 1) (hin rfl) rfl rfl in_X6 (by decide) tyX6 tyX6_ok nmX6 f_X6_15 rfl rfl (tyX6_ok 1 (by decide)) rfl rfl (Nat.le_of_ble_eq_true rfl) dX6_init_17 ?_
  show WC Y 20 [some (.ref h)] [] [(h, .inr (6, [.ref q0, .ref q1, .null, .null, .int 0, .null, .null, .int 0, .null, .null, .null, .null, .int 0])), (q0, .inl (Y.2.1.2.2 .int, 60, .inl (fun _ => 0))), (q1, .inl (Y.2.1.2.2 .int, 60, .inl (fun _ => 0)))] 2 (120)
  refine wc_aload_n C (i := 0) dX6_init_20 rfl rfl ?_
  refine wc_bipush C (v := 60) dX6_init_21 (by decide) ?_
  refine wc_newa C (atype := .int) (ty := .int) (t0 := 0) (N := 60) rfl rfl (fun _ _ h => h) ar_int (nwa_int _) (by decide) (by decide) (by decide) (by rw [hR]; decide) (by rw [hR]; decide) dX6_init_23 (fun q2 => ?_)
  show WC Y 25 [some (.ref h)] [.ref q2, .ref h] [(h, .inr (6, [.ref q0, .ref q1, .null, .null, .int 0, .null, .null, .int 0, .null, .null, .null, .null, .int 0])), (q0, .inl (Y.2.1.2.2 .int, 60, .inl (fun _ => 0))), (q1, .inl (Y.2.1.2.2 .int, 60, .inl (fun _ => 0))), (q2, .inl (Y.2.1.2.2 .int, 60, .inl (fun _ => 0)))] 3 (180)
  refine wc_putF C (p := 0) (j := 2) (hin rfl) rfl rfl in_X6 (by decide) tyX6 tyX6_ok nmX6 f_X6_18 rfl rfl (tyX6_ok 2 (by decide)) rfl rfl (Nat.le_of_ble_eq_true rfl) dX6_init_25 ?_
  show WC Y 28 [some (.ref h)] [] [(h, .inr (6, [.ref q0, .ref q1, .ref q2, .null, .int 0, .null, .null, .int 0, .null, .null, .null, .null, .int 0])), (q0, .inl (Y.2.1.2.2 .int, 60, .inl (fun _ => 0))), (q1, .inl (Y.2.1.2.2 .int, 60, .inl (fun _ => 0))), (q2, .inl (Y.2.1.2.2 .int, 60, .inl (fun _ => 0)))] 3 (180)
  refine wc_aload_n C (i := 0) dX6_init_28 rfl rfl ?_
  refine wc_bipush C (v := 60) dX6_init_29 (by decide) ?_
  refine wc_newa C (atype := .int) (ty := .int) (t0 := 0) (N := 60) rfl rfl (fun _ _ h => h) ar_int (nwa_int _) (by decide) (by decide) (by decide) (by rw [hR]; decide) (by rw [hR]; decide) dX6_init_31 (fun q3 => ?_)
  show WC Y 33 [some (.ref h)] [.ref q3, .ref h] [(h, .inr (6, [.ref q0, .ref q1, .ref q2, .null, .int 0, .null, .null, .int 0, .null, .null, .null, .null, .int 0])), (q0, .inl (Y.2.1.2.2 .int, 60, .inl (fun _ => 0))), (q1, .inl (Y.2.1.2.2 .int, 60, .inl (fun _ => 0))), (q2, .inl (Y.2.1.2.2 .int, 60, .inl (fun _ => 0))), (q3, .inl (Y.2.1.2.2 .int, 60, .inl (fun _ => 0)))] 4 (240)
  refine wc_putF C (p := 0) (j := 3) (hin rfl) rfl rfl in_X6 (by decide) tyX6 tyX6_ok nmX6 f_X6_21 rfl rfl (tyX6_ok 3 (by decide)) rfl rfl (Nat.le_of_ble_eq_true rfl) dX6_init_33 ?_
  show WC Y 36 [some (.ref h)] [] [(h, .inr (6, [.ref q0, .ref q1, .ref q2, .ref q3, .int 0, .null, .null, .int 0, .null, .null, .null, .null, .int 0])), (q0, .inl (Y.2.1.2.2 .int, 60, .inl (fun _ => 0))), (q1, .inl (Y.2.1.2.2 .int, 60, .inl (fun _ => 0))), (q2, .inl (Y.2.1.2.2 .int, 60, .inl (fun _ => 0))), (q3, .inl (Y.2.1.2.2 .int, 60, .inl (fun _ => 0)))] 4 (240)
  refine wc_aload_n C (i := 0) dX6_init_36 rfl rfl ?_
  refine wc_bipush C (v := 40) dX6_init_37 (by decide) ?_
  refine wc_newa C (atype := .int) (ty := .int) (t0 := 0) (N := 40) rfl rfl (fun _ _ h => h) ar_int (nwa_int _) (by decide) (by decide) (by decide) (by rw [hR]; decide) (by rw [hR]; decide) dX6_init_39 (fun q4 => ?_)
  show WC Y 41 [some (.ref h)] [.ref q4, .ref h] [(h, .inr (6, [.ref q0, .ref q1, .ref q2, .ref q3, .int 0, .null, .null, .int 0, .null, .null, .null, .null, .int 0])), (q0, .inl (Y.2.1.2.2 .int, 60, .inl (fun _ => 0))), (q1, .inl (Y.2.1.2.2 .int, 60, .inl (fun _ => 0))), (q2, .inl (Y.2.1.2.2 .int, 60, .inl (fun _ => 0))), (q3, .inl (Y.2.1.2.2 .int, 60, .inl (fun _ => 0))), (q4, .inl (Y.2.1.2.2 .int, 40, .inl (fun _ => 0)))] 5 (280)
  refine wc_putF C (p := 0) (j := 5) (hin rfl) rfl rfl in_X6 (by decide) tyX6 tyX6_ok nmX6 f_X6_24 rfl rfl (tyX6_ok 5 (by decide)) rfl rfl (Nat.le_of_ble_eq_true rfl) dX6_init_41 ?_
  show WC Y 44 [some (.ref h)] [] [(h, .inr (6, [.ref q0, .ref q1, .ref q2, .ref q3, .int 0, .ref q4, .null, .int 0, .null, .null, .null, .null, .int 0])), (q0, .inl (Y.2.1.2.2 .int, 60, .inl (fun _ => 0))), (q1, .inl (Y.2.1.2.2 .int, 60, .inl (fun _ => 0))), (q2, .inl (Y.2.1.2.2 .int, 60, .inl (fun _ => 0))), (q3, .inl (Y.2.1.2.2 .int, 60, .inl (fun _ => 0))), (q4, .inl (Y.2.1.2.2 .int, 40, .inl (fun _ => 0)))] 5 (280)
  refine wc_aload_n C (i := 0) dX6_init_44 rfl rfl ?_
  refine wc_bipush C (v := 40) dX6_init_45 (by decide) ?_
  refine wc_newa C (atype := .int) (ty := .int) (t0 := 0) (N := 40) rfl rfl (fun _ _ h => h) ar_int (nwa_int _) (by decide) (by decide) (by decide) (by rw [hR]; decide) (by rw [hR]; decide) dX6_init_47 (fun q5 => ?_)
  show WC Y 49 [some (.ref h)] [.ref q5, .ref h] [(h, .inr (6, [.ref q0, .ref q1, .ref q2, .ref q3, .int 0, .ref q4, .null, .int 0, .null, .null, .null, .null, .int 0])), (q0, .inl (Y.2.1.2.2 .int, 60, .inl (fun _ => 0))), (q1, .inl (Y.2.1.2.2 .int, 60, .inl (fun _ => 0))), (q2, .inl (Y.2.1.2.2 .int, 60, .inl (fun _ => 0))), (q3, .inl (Y.2.1.2.2 .int, 60, .inl (fun _ => 0))), (q4, .inl (Y.2.1.2.2 .int, 40, .inl (fun _ => 0))), (q5, .inl (Y.2.1.2.2 .int, 40, .inl (fun _ => 0)))] 6 (320)
  refine wc_putF C (p := 0) (j := 6) (hin rfl) rfl rfl in_X6 (by decide) tyX6 tyX6_ok nmX6 f_X6_27 rfl rfl (tyX6_ok 6 (by decide)) rfl rfl (Nat.le_of_ble_eq_true rfl) dX6_init_49 ?_
  show WC Y 52 [some (.ref h)] [] [(h, .inr (6, [.ref q0, .ref q1, .ref q2, .ref q3, .int 0, .ref q4, .ref q5, .int 0, .null, .null, .null, .null, .int 0])), (q0, .inl (Y.2.1.2.2 .int, 60, .inl (fun _ => 0))), (q1, .inl (Y.2.1.2.2 .int, 60, .inl (fun _ => 0))), (q2, .inl (Y.2.1.2.2 .int, 60, .inl (fun _ => 0))), (q3, .inl (Y.2.1.2.2 .int, 60, .inl (fun _ => 0))), (q4, .inl (Y.2.1.2.2 .int, 40, .inl (fun _ => 0))), (q5, .inl (Y.2.1.2.2 .int, 40, .inl (fun _ => 0)))] 6 (320)
  refine wc_aload_n C (i := 0) dX6_init_52 rfl rfl ?_
  refine wc_bipush C (v := 80) dX6_init_53 (by decide) ?_
  refine wc_newa C (atype := .int) (ty := .int) (t0 := 0) (N := 80) rfl rfl (fun _ _ h => h) ar_int (nwa_int _) (by decide) (by decide) (by decide) (by rw [hR]; decide) (by rw [hR]; decide) dX6_init_55 (fun q6 => ?_)
  show WC Y 57 [some (.ref h)] [.ref q6, .ref h] [(h, .inr (6, [.ref q0, .ref q1, .ref q2, .ref q3, .int 0, .ref q4, .ref q5, .int 0, .null, .null, .null, .null, .int 0])), (q0, .inl (Y.2.1.2.2 .int, 60, .inl (fun _ => 0))), (q1, .inl (Y.2.1.2.2 .int, 60, .inl (fun _ => 0))), (q2, .inl (Y.2.1.2.2 .int, 60, .inl (fun _ => 0))), (q3, .inl (Y.2.1.2.2 .int, 60, .inl (fun _ => 0))), (q4, .inl (Y.2.1.2.2 .int, 40, .inl (fun _ => 0))), (q5, .inl (Y.2.1.2.2 .int, 40, .inl (fun _ => 0))), (q6, .inl (Y.2.1.2.2 .int, 80, .inl (fun _ => 0)))] 7 (400)
  refine wc_putF C (p := 0) (j := 8) (hin rfl) rfl rfl in_X6 (by decide) tyX6 tyX6_ok nmX6 f_X6_30 rfl rfl (tyX6_ok 8 (by decide)) rfl rfl (Nat.le_of_ble_eq_true rfl) dX6_init_57 ?_
  show WC Y 60 [some (.ref h)] [] [(h, .inr (6, [.ref q0, .ref q1, .ref q2, .ref q3, .int 0, .ref q4, .ref q5, .int 0, .ref q6, .null, .null, .null, .int 0])), (q0, .inl (Y.2.1.2.2 .int, 60, .inl (fun _ => 0))), (q1, .inl (Y.2.1.2.2 .int, 60, .inl (fun _ => 0))), (q2, .inl (Y.2.1.2.2 .int, 60, .inl (fun _ => 0))), (q3, .inl (Y.2.1.2.2 .int, 60, .inl (fun _ => 0))), (q4, .inl (Y.2.1.2.2 .int, 40, .inl (fun _ => 0))), (q5, .inl (Y.2.1.2.2 .int, 40, .inl (fun _ => 0))), (q6, .inl (Y.2.1.2.2 .int, 80, .inl (fun _ => 0)))] 7 (400)
  refine wc_aload_n C (i := 0) dX6_init_60 rfl rfl ?_
  refine wc_bipush C (v := 80) dX6_init_61 (by decide) ?_
  refine wc_newa C (atype := .int) (ty := .int) (t0 := 0) (N := 80) rfl rfl (fun _ _ h => h) ar_int (nwa_int _) (by decide) (by decide) (by decide) (by rw [hR]; decide) (by rw [hR]; decide) dX6_init_63 (fun q7 => ?_)
  show WC Y 65 [some (.ref h)] [.ref q7, .ref h] [(h, .inr (6, [.ref q0, .ref q1, .ref q2, .ref q3, .int 0, .ref q4, .ref q5, .int 0, .ref q6, .null, .null, .null, .int 0])), (q0, .inl (Y.2.1.2.2 .int, 60, .inl (fun _ => 0))), (q1, .inl (Y.2.1.2.2 .int, 60, .inl (fun _ => 0))), (q2, .inl (Y.2.1.2.2 .int, 60, .inl (fun _ => 0))), (q3, .inl (Y.2.1.2.2 .int, 60, .inl (fun _ => 0))), (q4, .inl (Y.2.1.2.2 .int, 40, .inl (fun _ => 0))), (q5, .inl (Y.2.1.2.2 .int, 40, .inl (fun _ => 0))), (q6, .inl (Y.2.1.2.2 .int, 80, .inl (fun _ => 0))), (q7, .inl (Y.2.1.2.2 .int, 80, .inl (fun _ => 0)))] 8 (480)
  refine wc_putF C (p := 0) (j := 9) (hin rfl) rfl rfl in_X6 (by decide) tyX6 tyX6_ok nmX6 f_X6_33 rfl rfl (tyX6_ok 9 (by decide)) rfl rfl (Nat.le_of_ble_eq_true rfl) dX6_init_65 ?_
  show WC Y 68 [some (.ref h)] [] [(h, .inr (6, [.ref q0, .ref q1, .ref q2, .ref q3, .int 0, .ref q4, .ref q5, .int 0, .ref q6, .ref q7, .null, .null, .int 0])), (q0, .inl (Y.2.1.2.2 .int, 60, .inl (fun _ => 0))), (q1, .inl (Y.2.1.2.2 .int, 60, .inl (fun _ => 0))), (q2, .inl (Y.2.1.2.2 .int, 60, .inl (fun _ => 0))), (q3, .inl (Y.2.1.2.2 .int, 60, .inl (fun _ => 0))), (q4, .inl (Y.2.1.2.2 .int, 40, .inl (fun _ => 0))), (q5, .inl (Y.2.1.2.2 .int, 40, .inl (fun _ => 0))), (q6, .inl (Y.2.1.2.2 .int, 80, .inl (fun _ => 0))), (q7, .inl (Y.2.1.2.2 .int, 80, .inl (fun _ => 0)))] 8 (480)
  refine wc_aload_n C (i := 0) dX6_init_68 rfl rfl ?_
  refine wc_bipush C (v := 80) dX6_init_69 (by decide) ?_
  refine wc_newa C (atype := .int) (ty := .int) (t0 := 0) (N := 80) rfl rfl (fun _ _ h => h) ar_int (nwa_int _) (by decide) (by decide) (by decide) (by rw [hR]; decide) (by rw [hR]; decide) dX6_init_71 (fun q8 => ?_)
  show WC Y 73 [some (.ref h)] [.ref q8, .ref h] [(h, .inr (6, [.ref q0, .ref q1, .ref q2, .ref q3, .int 0, .ref q4, .ref q5, .int 0, .ref q6, .ref q7, .null, .null, .int 0])), (q0, .inl (Y.2.1.2.2 .int, 60, .inl (fun _ => 0))), (q1, .inl (Y.2.1.2.2 .int, 60, .inl (fun _ => 0))), (q2, .inl (Y.2.1.2.2 .int, 60, .inl (fun _ => 0))), (q3, .inl (Y.2.1.2.2 .int, 60, .inl (fun _ => 0))), (q4, .inl (Y.2.1.2.2 .int, 40, .inl (fun _ => 0))), (q5, .inl (Y.2.1.2.2 .int, 40, .inl (fun _ => 0))), (q6, .inl (Y.2.1.2.2 .int, 80, .inl (fun _ => 0))), (q7, .inl (Y.2.1.2.2 .int, 80, .inl (fun _ => 0))), (q8, .inl (Y.2.1.2.2 .int, 80, .inl (fun _ => 0)))] 9 (560)
  refine wc_putF C (p := 0) (j := 10) (hin rfl) rfl rfl in_X6 (by decide) tyX6 tyX6_ok nmX6 f_X6_36 rfl rfl (tyX6_ok 10 (by decide)) rfl rfl (Nat.le_of_ble_eq_true rfl) dX6_init_73 ?_
  show WC Y 76 [some (.ref h)] [] [(h, .inr (6, [.ref q0, .ref q1, .ref q2, .ref q3, .int 0, .ref q4, .ref q5, .int 0, .ref q6, .ref q7, .ref q8, .null, .int 0])), (q0, .inl (Y.2.1.2.2 .int, 60, .inl (fun _ => 0))), (q1, .inl (Y.2.1.2.2 .int, 60, .inl (fun _ => 0))), (q2, .inl (Y.2.1.2.2 .int, 60, .inl (fun _ => 0))), (q3, .inl (Y.2.1.2.2 .int, 60, .inl (fun _ => 0))), (q4, .inl (Y.2.1.2.2 .int, 40, .inl (fun _ => 0))), (q5, .inl (Y.2.1.2.2 .int, 40, .inl (fun _ => 0))), (q6, .inl (Y.2.1.2.2 .int, 80, .inl (fun _ => 0))), (q7, .inl (Y.2.1.2.2 .int, 80, .inl (fun _ => 0))), (q8, .inl (Y.2.1.2.2 .int, 80, .inl (fun _ => 0)))] 9 (560)
  refine wc_aload_n C (i := 0) dX6_init_76 rfl rfl ?_
  refine wc_bipush C (v := 80) dX6_init_77 (by decide) ?_
  refine wc_newa C (atype := .int) (ty := .int) (t0 := 0) (N := 80) rfl rfl (fun _ _ h => h) ar_int (nwa_int _) (by decide) (by decide) (by decide) (by rw [hR]; decide) (by rw [hR]; decide) dX6_init_79 (fun q9 => ?_)
  show WC Y 81 [some (.ref h)] [.ref q9, .ref h] [(h, .inr (6, [.ref q0, .ref q1, .ref q2, .ref q3, .int 0, .ref q4, .ref q5, .int 0, .ref q6, .ref q7, .ref q8, .null, .int 0])), (q0, .inl (Y.2.1.2.2 .int, 60, .inl (fun _ => 0))), (q1, .inl (Y.2.1.2.2 .int, 60, .inl (fun _ => 0))), (q2, .inl (Y.2.1.2.2 .int, 60, .inl (fun _ => 0))), (q3, .inl (Y.2.1.2.2 .int, 60, .inl (fun _ => 0))), (q4, .inl (Y.2.1.2.2 .int, 40, .inl (fun _ => 0))), (q5, .inl (Y.2.1.2.2 .int, 40, .inl (fun _ => 0))), (q6, .inl (Y.2.1.2.2 .int, 80, .inl (fun _ => 0))), (q7, .inl (Y.2.1.2.2 .int, 80, .inl (fun _ => 0))), (q8, .inl (Y.2.1.2.2 .int, 80, .inl (fun _ => 0))), (q9, .inl (Y.2.1.2.2 .int, 80, .inl (fun _ => 0)))] 10 (640)
  refine wc_putF C (p := 0) (j := 11) (hin rfl) rfl rfl in_X6 (by decide) tyX6 tyX6_ok nmX6 f_X6_39 rfl rfl (tyX6_ok 11 (by decide)) rfl rfl (Nat.le_of_ble_eq_true rfl) dX6_init_81 ?_
  show WC Y 84 [some (.ref h)] [] [(h, .inr (6, [.ref q0, .ref q1, .ref q2, .ref q3, .int 0, .ref q4, .ref q5, .int 0, .ref q6, .ref q7, .ref q8, .ref q9, .int 0])), (q0, .inl (Y.2.1.2.2 .int, 60, .inl (fun _ => 0))), (q1, .inl (Y.2.1.2.2 .int, 60, .inl (fun _ => 0))), (q2, .inl (Y.2.1.2.2 .int, 60, .inl (fun _ => 0))), (q3, .inl (Y.2.1.2.2 .int, 60, .inl (fun _ => 0))), (q4, .inl (Y.2.1.2.2 .int, 40, .inl (fun _ => 0))), (q5, .inl (Y.2.1.2.2 .int, 40, .inl (fun _ => 0))), (q6, .inl (Y.2.1.2.2 .int, 80, .inl (fun _ => 0))), (q7, .inl (Y.2.1.2.2 .int, 80, .inl (fun _ => 0))), (q8, .inl (Y.2.1.2.2 .int, 80, .inl (fun _ => 0))), (q9, .inl (Y.2.1.2.2 .int, 80, .inl (fun _ => 0)))] 10 (640)
  exact hret _ _ _ dX6_init_84 ⟨q0, q1, q2, q3, q4, q5, q6, q7, q8, q9, rfl⟩
def mk_X7 (E : fp_E) (h : Nat) (q0 : Nat) (q1 : Nat) (q2 : Nat) (q3 : Nat) (q4 : Nat) : va_W := [(h, .inr (7, [.ref q0, .ref q1, .ref q2, .int 0, .ref q3, .ref q4, .int 0])),
  (q0, .inl (E.2.2 .int, 7, .inl (fun _ => 0))),
  (q1, .inl (E.2.2 .int, 7, .inl (fun _ => 0))),
  (q2, .inl (E.2.2 .int, 7, .inl (fun _ => 0))),
  (q3, .inl (E.2.2 .int, 7, .inl (fun _ => 0))),
  (q4, .inl (E.2.2 .int, 12, .inl (fun _ => 0)))]
set_option maxHeartbeats 4000000 in
set_option maxRecDepth 100000 in
theorem ii_X7 {l : Launch} {E : fp_E} {lo h : Nat} : fp_I l E lo yX7_init cX7_init 1 1 5 40 [.ref h] [(h, .inr (7, [.null, .null, .null, .int 0, .null, .null, .int 0]))] (fun w1 => ∃ (q0 : Nat) (q1 : Nat) (q2 : Nat) (q3 : Nat) (q4 : Nat), w1 = mk_X7 E h q0 q1 q2 q3 q4) := by
  refine fp_enterI rfl [some (.ref h)] (Nat.le_of_ble_eq_true rfl) (fun q hq => hq) (fun Y hE hl hlo hn hR hin C hret => ?_)
  subst hE hl hlo
  refine wc_aload_n C (i := 0) dX7_init_0 rfl rfl ?_
  refine wc_obj C ob_X7_3 ob_i ob_c dX7_init_1 (by rw [hR]; decide) (by rw [hR]; decide) (Nat.le_of_ble_eq_true rfl) ?_
  refine wc_aload_n C (i := 0) dX7_init_4 rfl rfl ?_
  refine wc_bipush C (v := 7) dX7_init_5 (by decide) ?_
  refine wc_newa C (atype := .int) (ty := .int) (t0 := 0) (N := 7) rfl rfl (fun _ _ h => h) ar_int (nwa_int _) (by decide) (by decide) (by decide) (by rw [hR]; decide) (by rw [hR]; decide) dX7_init_7 (fun q0 => ?_)
  show WC Y 9 [some (.ref h)] [.ref q0, .ref h] [(h, .inr (7, [.null, .null, .null, .int 0, .null, .null, .int 0])), (q0, .inl (Y.2.1.2.2 .int, 7, .inl (fun _ => 0)))] 1 (7)
  refine wc_putF C (p := 0) (j := 0) (hin rfl) rfl rfl in_X7 (by decide) tyX7 tyX7_ok nmX7 f_X7_9 rfl rfl (tyX7_ok 0 (by decide)) rfl rfl (Nat.le_of_ble_eq_true rfl) dX7_init_9 ?_
  show WC Y 12 [some (.ref h)] [] [(h, .inr (7, [.ref q0, .null, .null, .int 0, .null, .null, .int 0])), (q0, .inl (Y.2.1.2.2 .int, 7, .inl (fun _ => 0)))] 1 (7)
  refine wc_aload_n C (i := 0) dX7_init_12 rfl rfl ?_
  refine wc_bipush C (v := 7) dX7_init_13 (by decide) ?_
  refine wc_newa C (atype := .int) (ty := .int) (t0 := 0) (N := 7) rfl rfl (fun _ _ h => h) ar_int (nwa_int _) (by decide) (by decide) (by decide) (by rw [hR]; decide) (by rw [hR]; decide) dX7_init_15 (fun q1 => ?_)
  show WC Y 17 [some (.ref h)] [.ref q1, .ref h] [(h, .inr (7, [.ref q0, .null, .null, .int 0, .null, .null, .int 0])), (q0, .inl (Y.2.1.2.2 .int, 7, .inl (fun _ => 0))), (q1, .inl (Y.2.1.2.2 .int, 7, .inl (fun _ => 0)))] 2 (14)
  refine wc_putF C (p := 0) (j := 1) (hin rfl) rfl rfl in_X7 (by decide) tyX7 tyX7_ok nmX7 f_X7_15 rfl rfl (tyX7_ok 1 (by decide)) rfl rfl (Nat.le_of_ble_eq_true rfl) dX7_init_17 ?_
  show WC Y 20 [some (.ref h)] [] [(h, .inr (7, [.ref q0, .ref q1, .null, .int 0, .null, .null, .int 0])), (q0, .inl (Y.2.1.2.2 .int, 7, .inl (fun _ => 0))), (q1, .inl (Y.2.1.2.2 .int, 7, .inl (fun _ => 0)))] 2 (14)
  refine wc_aload_n C (i := 0) dX7_init_20 rfl rfl ?_
  refine wc_bipush C (v := 7) dX7_init_21 (by decide) ?_
  refine wc_newa C (atype := .int) (ty := .int) (t0 := 0) (N := 7) rfl rfl (fun _ _ h => h) ar_int (nwa_int _) (by decide) (by decide) (by decide) (by rw [hR]; decide) (by rw [hR]; decide) dX7_init_23 (fun q2 => ?_)
  show WC Y 25 [some (.ref h)] [.ref q2, .ref h] [(h, .inr (7, [.ref q0, .ref q1, .null, .int 0, .null, .null, .int 0])), (q0, .inl (Y.2.1.2.2 .int, 7, .inl (fun _ => 0))), (q1, .inl (Y.2.1.2.2 .int, 7, .inl (fun _ => 0))), (q2, .inl (Y.2.1.2.2 .int, 7, .inl (fun _ => 0)))] 3 (21)
  refine wc_putF C (p := 0) (j := 2) (hin rfl) rfl rfl in_X7 (by decide) tyX7 tyX7_ok nmX7 f_X7_18 rfl rfl (tyX7_ok 2 (by decide)) rfl rfl (Nat.le_of_ble_eq_true rfl) dX7_init_25 ?_
  show WC Y 28 [some (.ref h)] [] [(h, .inr (7, [.ref q0, .ref q1, .ref q2, .int 0, .null, .null, .int 0])), (q0, .inl (Y.2.1.2.2 .int, 7, .inl (fun _ => 0))), (q1, .inl (Y.2.1.2.2 .int, 7, .inl (fun _ => 0))), (q2, .inl (Y.2.1.2.2 .int, 7, .inl (fun _ => 0)))] 3 (21)
  refine wc_aload_n C (i := 0) dX7_init_28 rfl rfl ?_
  refine wc_bipush C (v := 7) dX7_init_29 (by decide) ?_
  refine wc_newa C (atype := .int) (ty := .int) (t0 := 0) (N := 7) rfl rfl (fun _ _ h => h) ar_int (nwa_int _) (by decide) (by decide) (by decide) (by rw [hR]; decide) (by rw [hR]; decide) dX7_init_31 (fun q3 => ?_)
  show WC Y 33 [some (.ref h)] [.ref q3, .ref h] [(h, .inr (7, [.ref q0, .ref q1, .ref q2, .int 0, .null, .null, .int 0])), (q0, .inl (Y.2.1.2.2 .int, 7, .inl (fun _ => 0))), (q1, .inl (Y.2.1.2.2 .int, 7, .inl (fun _ => 0))), (q2, .inl (Y.2.1.2.2 .int, 7, .inl (fun _ => 0))), (q3, .inl (Y.2.1.2.2 .int, 7, .inl (fun _ => 0)))] 4 (28)
  refine wc_putF C (p := 0) (j := 4) (hin rfl) rfl rfl in_X7 (by decide) tyX7 tyX7_ok nmX7 f_X7_21 rfl rfl (tyX7_ok 4 (by decide)) rfl rfl (Nat.le_of_ble_eq_true rfl) dX7_init_33 ?_
  show WC Y 36 [some (.ref h)] [] [(h, .inr (7, [.ref q0, .ref q1, .ref q2, .int 0, .ref q3, .null, .int 0])), (q0, .inl (Y.2.1.2.2 .int, 7, .inl (fun _ => 0))), (q1, .inl (Y.2.1.2.2 .int, 7, .inl (fun _ => 0))), (q2, .inl (Y.2.1.2.2 .int, 7, .inl (fun _ => 0))), (q3, .inl (Y.2.1.2.2 .int, 7, .inl (fun _ => 0)))] 4 (28)
  refine wc_aload_n C (i := 0) dX7_init_36 rfl rfl ?_
  refine wc_bipush C (v := 12) dX7_init_37 (by decide) ?_
  refine wc_newa C (atype := .int) (ty := .int) (t0 := 0) (N := 12) rfl rfl (fun _ _ h => h) ar_int (nwa_int _) (by decide) (by decide) (by decide) (by rw [hR]; decide) (by rw [hR]; decide) dX7_init_39 (fun q4 => ?_)
  show WC Y 41 [some (.ref h)] [.ref q4, .ref h] [(h, .inr (7, [.ref q0, .ref q1, .ref q2, .int 0, .ref q3, .null, .int 0])), (q0, .inl (Y.2.1.2.2 .int, 7, .inl (fun _ => 0))), (q1, .inl (Y.2.1.2.2 .int, 7, .inl (fun _ => 0))), (q2, .inl (Y.2.1.2.2 .int, 7, .inl (fun _ => 0))), (q3, .inl (Y.2.1.2.2 .int, 7, .inl (fun _ => 0))), (q4, .inl (Y.2.1.2.2 .int, 12, .inl (fun _ => 0)))] 5 (40)
  refine wc_putF C (p := 0) (j := 5) (hin rfl) rfl rfl in_X7 (by decide) tyX7 tyX7_ok nmX7 f_X7_24 rfl rfl (tyX7_ok 5 (by decide)) rfl rfl (Nat.le_of_ble_eq_true rfl) dX7_init_41 ?_
  show WC Y 44 [some (.ref h)] [] [(h, .inr (7, [.ref q0, .ref q1, .ref q2, .int 0, .ref q3, .ref q4, .int 0])), (q0, .inl (Y.2.1.2.2 .int, 7, .inl (fun _ => 0))), (q1, .inl (Y.2.1.2.2 .int, 7, .inl (fun _ => 0))), (q2, .inl (Y.2.1.2.2 .int, 7, .inl (fun _ => 0))), (q3, .inl (Y.2.1.2.2 .int, 7, .inl (fun _ => 0))), (q4, .inl (Y.2.1.2.2 .int, 12, .inl (fun _ => 0)))] 5 (40)
  exact hret _ _ _ dX7_init_44 ⟨q0, q1, q2, q3, q4, rfl⟩
