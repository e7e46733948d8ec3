/-! ===== the constructors ===== -/
theorem ob_i : Cond.instanceMethod Lib.objectInit ∈ fp_lw := fp_mem 85 (by decide +kernel) rfl
theorem ob_c : Cond.code Lib.objectInit ⟨#[0xb1]⟩ 1 none ∈ fp_lw := fp_mem 86 (by decide +kernel) rfl
theorem ob_X8_1 : Cond.methodLink RX8 1 Lib.objectInit ∈ fp_lw := fp_mem 84 (by decide +kernel) rfl
theorem ob_X0_3 : Cond.methodLink RX0 3 Lib.objectInit ∈ fp_lw := fp_mem 348 (by decide +kernel) rfl
theorem ob_X1_3 : Cond.methodLink RX1 3 Lib.objectInit ∈ fp_lw := fp_mem 272 (by decide +kernel) rfl
theorem ob_X2_3 : Cond.methodLink RX2 3 Lib.objectInit ∈ fp_lw := fp_mem 98 (by decide +kernel) rfl
theorem ob_X3_3 : Cond.methodLink RX3 3 Lib.objectInit ∈ fp_lw := fp_mem 210 (by decide +kernel) rfl
theorem ob_X4_3 : Cond.methodLink RX4 3 Lib.objectInit ∈ fp_lw := fp_mem 92 (by decide +kernel) rfl
theorem ob_X5_5 : Cond.methodLink RX5 5 Lib.objectInit ∈ fp_lw := fp_mem 216 (by decide +kernel) rfl
theorem ob_X6_3 : Cond.methodLink RX6 3 Lib.objectInit ∈ fp_lw := fp_mem 158 (by decide +kernel) rfl
theorem ob_X7_3 : Cond.methodLink RX7 3 Lib.objectInit ∈ fp_lw := fp_mem 395 (by decide +kernel) rfl
theorem ob_X9_1 : Cond.methodLink RX9 1 Lib.objectInit ∈ fp_lw := fp_mem 1017 (by decide +kernel) rfl
theorem ar_int : Cond.arrayClass .int ∈ fp_lw := fp_mem 151 (by decide +kernel) rfl
theorem ar_boolean : Cond.arrayClass .boolean ∈ fp_lw := fp_mem 152 (by decide +kernel) rfl
theorem ar_byte : Cond.arrayClass .byte ∈ fp_lw := fp_mem 242 (by decide +kernel) rfl
theorem si_X0 : fp_siteI yX0_init cX0_init 2 1 := ⟨fp_mem 347 (by decide +kernel) rfl, fp_mem 346 (by decide +kernel) rfl, fp_mem 70 (by decide +kernel) rfl, rfl, by decide +kernel⟩
theorem nw_X0 : Cond.instantiable RX0 8 ∈ fp_lw := fp_mem 344 (by decide +kernel) rfl
theorem nz_X0 : Cond.initialized RX0 ∈ fp_lw := fp_mem 70 (by decide +kernel) rfl
theorem si_X1 : fp_siteI yX1_init cX1_init 1 0 := ⟨fp_mem 271 (by decide +kernel) rfl, fp_mem 270 (by decide +kernel) rfl, fp_mem 68 (by decide +kernel) rfl, rfl, by decide +kernel⟩
theorem nw_X1 : Cond.instantiable RX1 6 ∈ fp_lw := fp_mem 268 (by decide +kernel) rfl
theorem nz_X1 : Cond.initialized RX1 ∈ fp_lw := fp_mem 68 (by decide +kernel) rfl
theorem si_X2 : fp_siteI yX2_init cX2_init 2 0 := ⟨fp_mem 97 (by decide +kernel) rfl, fp_mem 96 (by decide +kernel) rfl, fp_mem 63 (by decide +kernel) rfl, rfl, by decide +kernel⟩
theorem nw_X2 : Cond.instantiable RX2 14 ∈ fp_lw := fp_mem 94 (by decide +kernel) rfl
theorem nz_X2 : Cond.initialized RX2 ∈ fp_lw := fp_mem 63 (by decide +kernel) rfl
theorem si_X3 : fp_siteI yX3_init cX3_init 1 0 := ⟨fp_mem 209 (by decide +kernel) rfl, fp_mem 208 (by decide +kernel) rfl, fp_mem 66 (by decide +kernel) rfl, rfl, by decide +kernel⟩
theorem nw_X3 : Cond.instantiable RX3 7 ∈ fp_lw := fp_mem 206 (by decide +kernel) rfl
theorem nz_X3 : Cond.initialized RX3 ∈ fp_lw := fp_mem 66 (by decide +kernel) rfl
theorem si_X4 : fp_siteI yX4_init cX4_init 1 0 := ⟨fp_mem 91 (by decide +kernel) rfl, fp_mem 90 (by decide +kernel) rfl, fp_mem 62 (by decide +kernel) rfl, rfl, by decide +kernel⟩
theorem nw_X4 : Cond.instantiable RX4 8 ∈ fp_lw := fp_mem 88 (by decide +kernel) rfl
theorem nz_X4 : Cond.initialized RX4 ∈ fp_lw := fp_mem 62 (by decide +kernel) rfl
theorem si_X5 : fp_siteI yX5_init cX5_init 1 0 := ⟨fp_mem 215 (by decide +kernel) rfl, fp_mem 214 (by decide +kernel) rfl, fp_mem 67 (by decide +kernel) rfl, rfl, by decide +kernel⟩
theorem nw_X5 : Cond.instantiable RX5 7 ∈ fp_lw := fp_mem 212 (by decide +kernel) rfl
theorem nz_X5 : Cond.initialized RX5 ∈ fp_lw := fp_mem 67 (by decide +kernel) rfl
theorem si_X6 : fp_siteI yX6_init cX6_init 1 0 := ⟨fp_mem 157 (by decide +kernel) rfl, fp_mem 156 (by decide +kernel) rfl, fp_mem 65 (by decide +kernel) rfl, rfl, by decide +kernel⟩
theorem nw_X6 : Cond.instantiable RX6 13 ∈ fp_lw := fp_mem 154 (by decide +kernel) rfl
theorem nz_X6 : Cond.initialized RX6 ∈ fp_lw := fp_mem 65 (by decide +kernel) rfl
theorem si_X7 : fp_siteI yX7_init cX7_init 1 0 := ⟨fp_mem 394 (by decide +kernel) rfl, fp_mem 393 (by decide +kernel) rfl, fp_mem 72 (by decide +kernel) rfl, rfl, by decide +kernel⟩
theorem nw_X7 : Cond.instantiable RX7 7 ∈ fp_lw := fp_mem 391 (by decide +kernel) rfl
theorem nz_X7 : Cond.initialized RX7 ∈ fp_lw := fp_mem 72 (by decide +kernel) rfl
theorem si_X8 : fp_siteI yX8_init cX8_init 1 0 := ⟨fp_mem 83 (by decide +kernel) rfl, fp_mem 82 (by decide +kernel) rfl, fp_mem 61 (by decide +kernel) rfl, rfl, by decide +kernel⟩
theorem nw_X8 : Cond.instantiable RX8 10 ∈ fp_lw := fp_mem 80 (by decide +kernel) rfl
theorem nz_X8 : Cond.initialized RX8 ∈ fp_lw := fp_mem 61 (by decide +kernel) rfl
theorem si_X9 : fp_siteI yX9_init cX9_init 1 0 := ⟨fp_mem 1016 (by decide +kernel) rfl, fp_mem 1015 (by decide +kernel) rfl, fp_mem 73 (by decide +kernel) rfl, rfl, by decide +kernel⟩
theorem nw_X9 : Cond.instantiable RX9 77 ∈ fp_lw := fp_mem 1013 (by decide +kernel) rfl
theorem nz_X9 : Cond.initialized RX9 ∈ fp_lw := fp_mem 73 (by decide +kernel) rfl
theorem cl_L_7 : Cond.classLink RL 7 RX8 ∈ fp_lw := fp_mem 79 (by decide +kernel) rfl
theorem cl_X8_7 : Cond.classLink RX8 7 RX4 ∈ fp_lw := fp_mem 87 (by decide +kernel) rfl
theorem cl_X4_9 : Cond.classLink RX4 9 RX2 ∈ fp_lw := fp_mem 93 (by decide +kernel) rfl
theorem cl_X4_18 : Cond.classLink RX4 18 RX6 ∈ fp_lw := fp_mem 153 (by decide +kernel) rfl
theorem cl_X4_25 : Cond.classLink RX4 25 RX3 ∈ fp_lw := fp_mem 205 (by decide +kernel) rfl
theorem cl_X3_9 : Cond.classLink RX3 9 RX5 ∈ fp_lw := fp_mem 211 (by decide +kernel) rfl
theorem cl_X4_32 : Cond.classLink RX4 32 RX1 ∈ fp_lw := fp_mem 267 (by decide +kernel) rfl
theorem cl_X8_36 : Cond.classLink RX8 36 RX0 ∈ fp_lw := fp_mem 343 (by decide +kernel) rfl
theorem cl_X8_48 : Cond.classLink RX8 48 RX7 ∈ fp_lw := fp_mem 390 (by decide +kernel) rfl
theorem cl_L_10 : Cond.classLink RL 10 RX9 ∈ fp_lw := fp_mem 1012 (by decide +kernel) rfl
theorem ml_X8_38 : Cond.methodLink RX8 38 yX0_init ∈ fp_lw := fp_mem 345 (by decide +kernel) rfl
theorem ml_X4_11 : Cond.methodLink RX4 11 yX2_init ∈ fp_lw := fp_mem 95 (by decide +kernel) rfl
theorem ml_L_9 : Cond.methodLink RL 9 yX8_init ∈ fp_lw := fp_mem 81 (by decide +kernel) rfl
theorem ml_L_12 : Cond.methodLink RL 12 yX9_init ∈ fp_lw := fp_mem 1014 (by decide +kernel) rfl
def mk_X1 (E : fp_E) (h : Nat) (q0 : Nat) (q1 : Nat) (q2 : Nat) (q3 : Nat) (q4 : Nat) : va_W := [(h, .inr (1, [.ref q0, .ref q1, .ref q2, .ref q3, .ref q4, .int 0])),
  (q0, .inl (E.2.2 .int, 60, .inl (fun _ => 0))),
  (q1, .inl (E.2.2 .int, 60, .inl (fun _ => 0))),
  (q2, .inl (E.2.2 .int, 60, .inl (fun _ => 0))),
  (q3, .inl (E.2.2 .int, 60, .inl (fun _ => 0))),
  (q4, .inl (E.2.2 .int, 60, .inl (fun _ => 0)))]
set_option maxHeartbeats 4000000 in
set_option maxRecDepth 100000 in
theorem ii_X1 {l : Launch} {E : fp_E} {lo h : Nat} : fp_I l E lo yX1_init cX1_init 1 1 5 300 [.ref h] [(h, .inr (1, [.null, .null, .null, .null, .null, .int 0]))] (fun w1 => ∃ (q0 : Nat) (q1 : Nat) (q2 : Nat) (q3 : Nat) (q4 : Nat), w1 = mk_X1 E h q0 q1 q2 q3 q4) := by
  refine fp_enterI rfl [some (.ref h)] (Nat.le_of_ble_eq_true rfl) (fun q hq => hq) (fun Y hE hl hlo hn hR hin C hret => ?_)
  subst hE hl hlo
  refine wc_aload_n C (i := 0) dX1_init_0 rfl rfl ?_
  refine wc_obj C ob_X1_3 ob_i ob_c dX1_init_1 (by rw [hR]; decide) (by rw [hR]; decide) (Nat.le_of_ble_eq_true rfl) ?_
  refine wc_aload_n C (i := 0) dX1_init_4 rfl rfl ?_
  refine wc_bipush C (v := 60) dX1_init_5 (by decide) ?_
  refine wc_newa C (t0 := 0) (N := 60) rfl rfl (fun _ _ h => h) ar_int (fun _ => rfl) (by decide) (by decide) (by decide) (by rw [hR]; decide) (by rw [hR]; decide) dX1_init_7 (fun q0 => ?_)
  refine wc_putF C (p := 0) (j := 0) (hin rfl) rfl rfl in_X1 (by decide) tyX1 tyX1_ok nmX1 f_X1_9 rfl rfl (tyX1_ok 0 (by decide)) rfl rfl (by decide) dX1_init_9 ?_
  refine wc_aload_n C (i := 0) dX1_init_12 rfl rfl ?_
  refine wc_bipush C (v := 60) dX1_init_13 (by decide) ?_
  refine wc_newa C (t0 := 0) (N := 60) rfl rfl (fun _ _ h => h) ar_int (fun _ => rfl) (by decide) (by decide) (by decide) (by rw [hR]; decide) (by rw [hR]; decide) dX1_init_15 (fun q1 => ?_)
  refine wc_putF C (p := 0) (j := 1) (hin rfl) rfl rfl in_X1 (by decide) tyX1 tyX1_ok nmX1 f_X1_15 rfl rfl (tyX1_ok 1 (by decide)) rfl rfl (by decide) dX1_init_17 ?_
  refine wc_aload_n C (i := 0) dX1_init_20 rfl rfl ?_
  refine wc_bipush C (v := 60) dX1_init_21 (by decide) ?_
  refine wc_newa C (t0 := 0) (N := 60) rfl rfl (fun _ _ h => h) ar_int (fun _ => rfl) (by decide) (by decide) (by decide) (by rw [hR]; decide) (by rw [hR]; decide) dX1_init_23 (fun q2 => ?_)
  refine wc_putF C (p := 0) (j := 2) (hin rfl) rfl rfl in_X1 (by decide) tyX1 tyX1_ok nmX1 f_X1_18 rfl rfl (tyX1_ok 2 (by decide)) rfl rfl (by decide) dX1_init_25 ?_
  refine wc_aload_n C (i := 0) dX1_init_28 rfl rfl ?_
  refine wc_bipush C (v := 60) dX1_init_29 (by decide) ?_
  refine wc_newa C (t0 := 0) (N := 60) rfl rfl (fun _ _ h => h) ar_int (fun _ => rfl) (by decide) (by decide) (by decide) (by rw [hR]; decide) (by rw [hR]; decide) dX1_init_31 (fun q3 => ?_)
  refine wc_putF C (p := 0) (j := 3) (hin rfl) rfl rfl in_X1 (by decide) tyX1 tyX1_ok nmX1 f_X1_21 rfl rfl (tyX1_ok 3 (by decide)) rfl rfl (by decide) dX1_init_33 ?_
  refine wc_aload_n C (i := 0) dX1_init_36 rfl rfl ?_
  refine wc_bipush C (v := 60) dX1_init_37 (by decide) ?_
  refine wc_newa C (t0 := 0) (N := 60) rfl rfl (fun _ _ h => h) ar_int (fun _ => rfl) (by decide) (by decide) (by decide) (by rw [hR]; decide) (by rw [hR]; decide) dX1_init_39 (fun q4 => ?_)
  refine wc_putF C (p := 0) (j := 4) (hin rfl) rfl rfl in_X1 (by decide) tyX1 tyX1_ok nmX1 f_X1_24 rfl rfl (tyX1_ok 4 (by decide)) rfl rfl (by decide) dX1_init_41 ?_
  exact hret _ _ _ dX1_init_44 ⟨q0, q1, q2, q3, q4, rfl⟩
def mk_X5 (E : fp_E) (h : Nat) (q0 : Nat) (q1 : Nat) : va_W := [(h, .inr (5, [.ref q0, .ref q1, .int 0, .int 0, .int 0, .int 0, .int 0])),
  (q0, .inl (E.2.2 .byte, 60, .inl (fun _ => 0))),
  (q1, .inl (E.2.2 .int, 60, .inl (fun _ => 0)))]
set_option maxHeartbeats 4000000 in
set_option maxRecDepth 100000 in
theorem ii_X5 {l : Launch} {E : fp_E} {lo h : Nat} : fp_I l E lo yX5_init cX5_init 1 1 2 120 [.ref h] [(h, .inr (5, [.null, .null, .int 0, .int 0, .int 0, .int 0, .int 0]))] (fun w1 => ∃ (q0 : Nat) (q1 : Nat), w1 = mk_X5 E h q0 q1) := by
  refine fp_enterI rfl [some (.ref h)] (Nat.le_of_ble_eq_true rfl) (fun q hq => hq) (fun Y hE hl hlo hn hR hin C hret => ?_)
  subst hE hl hlo
  refine wc_aload_n C (i := 0) dX5_init_0 rfl rfl ?_
  refine wc_obj C ob_X5_5 ob_i ob_c dX5_init_1 (by rw [hR]; decide) (by rw [hR]; decide) (Nat.le_of_ble_eq_true rfl) ?_
  refine wc_aload_n C (i := 0) dX5_init_4 rfl rfl ?_
  refine wc_bipush C (v := 60) dX5_init_5 (by decide) ?_
  refine wc_newa C (t0 := 2) (N := 60) rfl rfl (fun _ _ h => h) ar_byte (fun _ => rfl) (by decide) (by decide) (by decide) (by rw [hR]; decide) (by rw [hR]; decide) dX5_init_7 (fun q0 => ?_)
  refine wc_putF C (p := 0) (j := 0) (hin rfl) rfl rfl in_X5 (by decide) tyX5 tyX5_ok nmX5 f_X5_11 rfl rfl (tyX5_ok 0 (by decide)) rfl rfl (by decide) dX5_init_9 ?_
  refine wc_aload_n C (i := 0) dX5_init_12 rfl rfl ?_
  refine wc_bipush C (v := 60) dX5_init_13 (by decide) ?_
  refine wc_newa C (t0 := 0) (N := 60) rfl rfl (fun _ _ h => h) ar_int (fun _ => rfl) (by decide) (by decide) (by decide) (by rw [hR]; decide) (by rw [hR]; decide) dX5_init_15 (fun q1 => ?_)
  refine wc_putF C (p := 0) (j := 1) (hin rfl) rfl rfl in_X5 (by decide) tyX5 tyX5_ok nmX5 f_X5_15 rfl rfl (tyX5_ok 1 (by decide)) rfl rfl (by decide) dX5_init_17 ?_
  exact hret _ _ _ dX5_init_20 ⟨q0, q1, rfl⟩
def mk_X6 (E : fp_E) (h : Nat) (q0 : Nat) (q1 : Nat) (q2 : Nat) (q3 : Nat) (q4 : Nat) (q5 : Nat) (q6 : Nat) (q7 : Nat) (q8 : Nat) (q9 : Nat) : va_W := [(h, .inr (6, [.ref q0, .ref q1, .ref q2, .ref q3, .int 0, .ref q4, .ref q5, .int 0, .ref q6, .ref q7, .ref q8, .ref q9, .int 0])),
  (q0, .inl (E.2.2 .int, 60, .inl (fun _ => 0))),
  (q1, .inl (E.2.2 .int, 60, .inl (fun _ => 0))),
  (q2, .inl (E.2.2 .int, 60, .inl (fun _ => 0))),
  (q3, .inl (E.2.2 .int, 60, .inl (fun _ => 0))),
  (q4, .inl (E.2.2 .int, 40, .inl (fun _ => 0))),
  (q5, .inl (E.2.2 .int, 40, .inl (fun _ => 0))),
  (q6, .inl (E.2.2 .int, 80, .inl (fun _ => 0))),
  (q7, .inl (E.2.2 .int, 80, .inl (fun _ => 0))),
  (q8, .inl (E.2.2 .int, 80, .inl (fun _ => 0))),
  (q9, .inl (E.2.2 .int, 80, .inl (fun _ => 0)))]
set_option maxHeartbeats 4000000 in
set_option maxRecDepth 100000 in
theorem ii_X6 {l : Launch} {E : fp_E} {lo h : Nat} : fp_I l E lo yX6_init cX6_init 1 1 10 640 [.ref h] [(h, .inr (6, [.null, .null, .null, .null, .int 0, .null, .null, .int 0, .null, .null, .null, .null, .int 0]))] (fun w1 => ∃ (q0 : Nat) (q1 : Nat) (q2 : Nat) (q3 : Nat) (q4 : Nat) (q5 : Nat) (q6 : Nat) (q7 : Nat) (q8 : Nat) (q9 : Nat), w1 = mk_X6 E h q0 q1 q2 q3 q4 q5 q6 q7 q8 q9) := by
  refine fp_enterI rfl [some (.ref h)] (Nat.le_of_ble_eq_true rfl) (fun q hq => hq) (fun Y hE hl hlo hn hR hin C hret => ?_)
  subst hE hl hlo
  refine wc_aload_n C (i := 0) dX6_init_0 rfl rfl ?_
  refine wc_obj C ob_X6_3 ob_i ob_c dX6_init_1 (by rw [hR]; decide) (by rw [hR]; decide) (Nat.le_of_ble_eq_true rfl) ?_
  refine wc_aload_n C (i := 0) dX6_init_4 rfl rfl ?_
  refine wc_bipush C (v := 60) dX6_init_5 (by decide) ?_
  refine wc_newa C (t0 := 0) (N := 60) rfl rfl (fun _ _ h => h) ar_int (fun _ => rfl) (by decide) (by decide) (by decide) (by rw [hR]; decide) (by rw [hR]; decide) dX6_init_7 (fun q0 => ?_)
  refine wc_putF C (p := 0) (j := 0) (hin rfl) rfl rfl in_X6 (by decide) tyX6 tyX6_ok nmX6 f_X6_9 rfl rfl (tyX6_ok 0 (by decide)) rfl rfl (by decide) dX6_init_9 ?_
  refine wc_aload_n C (i := 0) dX6_init_12 rfl rfl ?_
  refine wc_bipush C (v := 60) dX6_init_13 (by decide) ?_
  refine wc_newa C (t0 := 0) (N := 60) rfl rfl (fun _ _ h => h) ar_int (fun _ => rfl) (by decide) (by decide) (by decide) (by rw [hR]; decide) (by rw [hR]; decide) dX6_init_15 (fun q1 => ?_)
  refine wc_putF C (p := 0) (j := 1) (hin rfl) rfl rfl in_X6 (by decide) tyX6 tyX6_ok nmX6 f_X6_15 rfl rfl (tyX6_ok 1 (by decide)) rfl rfl (by decide) dX6_init_17 ?_
  refine wc_aload_n C (i := 0) dX6_init_20 rfl rfl ?_
  refine wc_bipush C (v := 60) dX6_init_21 (by decide) ?_
  refine wc_newa C (t0 := 0) (N := 60) rfl rfl (fun _ _ h => h) ar_int (fun _ => rfl) (by decide) (by decide) (by decide) (by rw [hR]; decide) (by rw [hR]; decide) dX6_init_23 (fun q2 => ?_)
  refine wc_putF C (p := 0) (j := 2) (hin rfl) rfl rfl in_X6 (by decide) tyX6 tyX6_ok nmX6 f_X6_18 rfl rfl (tyX6_ok 2 (by decide)) rfl rfl (by decide) dX6_init_25 ?_
  refine wc_aload_n C (i := 0) dX6_init_28 rfl rfl ?_
  refine wc_bipush C (v := 60) dX6_init_29 (by decide) ?_
  refine wc_newa C (t0 := 0) (N := 60) rfl rfl (fun _ _ h => h) ar_int (fun _ => rfl) (by decide) (by decide) (by decide) (by rw [hR]; decide) (by rw [hR]; decide) dX6_init_31 (fun q3 => ?_)
  refine wc_putF C (p := 0) (j := 3) (hin rfl) rfl rfl in_X6 (by decide) tyX6 tyX6_ok nmX6 f_X6_21 rfl rfl (tyX6_ok 3 (by decide)) rfl rfl (by decide) dX6_init_33 ?_
  refine wc_aload_n C (i := 0) dX6_init_36 rfl rfl ?_
  refine wc_bipush C (v := 40) dX6_init_37 (by decide) ?_
  refine wc_newa C (t0 := 0) (N := 40) rfl rfl (fun _ _ h => h) ar_int (fun _ => rfl) (by decide) (by decide) (by decide) (by rw [hR]; decide) (by rw [hR]; decide) dX6_init_39 (fun q4 => ?_)
  refine wc_putF C (p := 0) (j := 5) (hin rfl) rfl rfl in_X6 (by decide) tyX6 tyX6_ok nmX6 f_X6_24 rfl rfl (tyX6_ok 5 (by decide)) rfl rfl (by decide) dX6_init_41 ?_
  refine wc_aload_n C (i := 0) dX6_init_44 rfl rfl ?_
  refine wc_bipush C (v := 40) dX6_init_45 (by decide) ?_
  refine wc_newa C (t0 := 0) (N := 40) rfl rfl (fun _ _ h => h) ar_int (fun _ => rfl) (by decide) (by decide) (by decide) (by rw [hR]; decide) (by rw [hR]; decide) dX6_init_47 (fun q5 => ?_)
  refine wc_putF C (p := 0) (j := 6) (hin rfl) rfl rfl in_X6 (by decide) tyX6 tyX6_ok nmX6 f_X6_27 rfl rfl (tyX6_ok 6 (by decide)) rfl rfl (by decide) dX6_init_49 ?_
  refine wc_aload_n C (i := 0) dX6_init_52 rfl rfl ?_
  refine wc_bipush C (v := 80) dX6_init_53 (by decide) ?_
  refine wc_newa C (t0 := 0) (N := 80) rfl rfl (fun _ _ h => h) ar_int (fun _ => rfl) (by decide) (by decide) (by decide) (by rw [hR]; decide) (by rw [hR]; decide) dX6_init_55 (fun q6 => ?_)
  refine wc_putF C (p := 0) (j := 8) (hin rfl) rfl rfl in_X6 (by decide) tyX6 tyX6_ok nmX6 f_X6_30 rfl rfl (tyX6_ok 8 (by decide)) rfl rfl (by decide) dX6_init_57 ?_
  refine wc_aload_n C (i := 0) dX6_init_60 rfl rfl ?_
  refine wc_bipush C (v := 80) dX6_init_61 (by decide) ?_
  refine wc_newa C (t0 := 0) (N := 80) rfl rfl (fun _ _ h => h) ar_int (fun _ => rfl) (by decide) (by decide) (by decide) (by rw [hR]; decide) (by rw [hR]; decide) dX6_init_63 (fun q7 => ?_)
  refine wc_putF C (p := 0) (j := 9) (hin rfl) rfl rfl in_X6 (by decide) tyX6 tyX6_ok nmX6 f_X6_33 rfl rfl (tyX6_ok 9 (by decide)) rfl rfl (by decide) dX6_init_65 ?_
  refine wc_aload_n C (i := 0) dX6_init_68 rfl rfl ?_
  refine wc_bipush C (v := 80) dX6_init_69 (by decide) ?_
  refine wc_newa C (t0 := 0) (N := 80) rfl rfl (fun _ _ h => h) ar_int (fun _ => rfl) (by decide) (by decide) (by decide) (by rw [hR]; decide) (by rw [hR]; decide) dX6_init_71 (fun q8 => ?_)
  refine wc_putF C (p := 0) (j := 10) (hin rfl) rfl rfl in_X6 (by decide) tyX6 tyX6_ok nmX6 f_X6_36 rfl rfl (tyX6_ok 10 (by decide)) rfl rfl (by decide) dX6_init_73 ?_
  refine wc_aload_n C (i := 0) dX6_init_76 rfl rfl ?_
  refine wc_bipush C (v := 80) dX6_init_77 (by decide) ?_
  refine wc_newa C (t0 := 0) (N := 80) rfl rfl (fun _ _ h => h) ar_int (fun _ => rfl) (by decide) (by decide) (by decide) (by rw [hR]; decide) (by rw [hR]; decide) dX6_init_79 (fun q9 => ?_)
  refine wc_putF C (p := 0) (j := 11) (hin rfl) rfl rfl in_X6 (by decide) tyX6 tyX6_ok nmX6 f_X6_39 rfl rfl (tyX6_ok 11 (by decide)) rfl rfl (by decide) dX6_init_81 ?_
  exact hret _ _ _ dX6_init_84 ⟨q0, q1, q2, q3, q4, q5, q6, q7, q8, q9, rfl⟩
def mk_X7 (E : fp_E) (h : Nat) (q0 : Nat) (q1 : Nat) (q2 : Nat) (q3 : Nat) (q4 : Nat) : va_W := [(h, .inr (7, [.ref q0, .ref q1, .ref q2, .int 0, .ref q3, .ref q4, .int 0])),
  (q0, .inl (E.2.2 .int, 7, .inl (fun _ => 0))),
  (q1, .inl (E.2.2 .int, 7, .inl (fun _ => 0))),
  (q2, .inl (E.2.2 .int, 7, .inl (fun _ => 0))),
  (q3, .inl (E.2.2 .int, 7, .inl (fun _ => 0))),
  (q4, .inl (E.2.2 .int, 12, .inl (fun _ => 0)))]
set_option maxHeartbeats 4000000 in
set_option maxRecDepth 100000 in
theorem ii_X7 {l : Launch} {E : fp_E} {lo h : Nat} : fp_I l E lo yX7_init cX7_init 1 1 5 40 [.ref h] [(h, .inr (7, [.null, .null, .null, .int 0, .null, .null, .int 0]))] (fun w1 => ∃ (q0 : Nat) (q1 : Nat) (q2 : Nat) (q3 : Nat) (q4 : Nat), w1 = mk_X7 E h q0 q1 q2 q3 q4) := by
  refine fp_enterI rfl [some (.ref h)] (Nat.le_of_ble_eq_true rfl) (fun q hq => hq) (fun Y hE hl hlo hn hR hin C hret => ?_)
  subst hE hl hlo
  refine wc_aload_n C (i := 0) dX7_init_0 rfl rfl ?_
  refine wc_obj C ob_X7_3 ob_i ob_c dX7_init_1 (by rw [hR]; decide) (by rw [hR]; decide) (Nat.le_of_ble_eq_true rfl) ?_
  refine wc_aload_n C (i := 0) dX7_init_4 rfl rfl ?_
  refine wc_bipush C (v := 7) dX7_init_5 (by decide) ?_
  refine wc_newa C (t0 := 0) (N := 7) rfl rfl (fun _ _ h => h) ar_int (fun _ => rfl) (by decide) (by decide) (by decide) (by rw [hR]; decide) (by rw [hR]; decide) dX7_init_7 (fun q0 => ?_)
  refine wc_putF C (p := 0) (j := 0) (hin rfl) rfl rfl in_X7 (by decide) tyX7 tyX7_ok nmX7 f_X7_9 rfl rfl (tyX7_ok 0 (by decide)) rfl rfl (by decide) dX7_init_9 ?_
  refine wc_aload_n C (i := 0) dX7_init_12 rfl rfl ?_
  refine wc_bipush C (v := 7) dX7_init_13 (by decide) ?_
  refine wc_newa C (t0 := 0) (N := 7) rfl rfl (fun _ _ h => h) ar_int (fun _ => rfl) (by decide) (by decide) (by decide) (by rw [hR]; decide) (by rw [hR]; decide) dX7_init_15 (fun q1 => ?_)
  refine wc_putF C (p := 0) (j := 1) (hin rfl) rfl rfl in_X7 (by decide) tyX7 tyX7_ok nmX7 f_X7_15 rfl rfl (tyX7_ok 1 (by decide)) rfl rfl (by decide) dX7_init_17 ?_
  refine wc_aload_n C (i := 0) dX7_init_20 rfl rfl ?_
  refine wc_bipush C (v := 7) dX7_init_21 (by decide) ?_
  refine wc_newa C (t0 := 0) (N := 7) rfl rfl (fun _ _ h => h) ar_int (fun _ => rfl) (by decide) (by decide) (by decide) (by rw [hR]; decide) (by rw [hR]; decide) dX7_init_23 (fun q2 => ?_)
  refine wc_putF C (p := 0) (j := 2) (hin rfl) rfl rfl in_X7 (by decide) tyX7 tyX7_ok nmX7 f_X7_18 rfl rfl (tyX7_ok 2 (by decide)) rfl rfl (by decide) dX7_init_25 ?_
  refine wc_aload_n C (i := 0) dX7_init_28 rfl rfl ?_
  refine wc_bipush C (v := 7) dX7_init_29 (by decide) ?_
  refine wc_newa C (t0 := 0) (N := 7) rfl rfl (fun _ _ h => h) ar_int (fun _ => rfl) (by decide) (by decide) (by decide) (by rw [hR]; decide) (by rw [hR]; decide) dX7_init_31 (fun q3 => ?_)
  refine wc_putF C (p := 0) (j := 4) (hin rfl) rfl rfl in_X7 (by decide) tyX7 tyX7_ok nmX7 f_X7_21 rfl rfl (tyX7_ok 4 (by decide)) rfl rfl (by decide) dX7_init_33 ?_
  refine wc_aload_n C (i := 0) dX7_init_36 rfl rfl ?_
  refine wc_bipush C (v := 12) dX7_init_37 (by decide) ?_
  refine wc_newa C (t0 := 0) (N := 12) rfl rfl (fun _ _ h => h) ar_int (fun _ => rfl) (by decide) (by decide) (by decide) (by rw [hR]; decide) (by rw [hR]; decide) dX7_init_39 (fun q4 => ?_)
  refine wc_putF C (p := 0) (j := 5) (hin rfl) rfl rfl in_X7 (by decide) tyX7 tyX7_ok nmX7 f_X7_24 rfl rfl (tyX7_ok 5 (by decide)) rfl rfl (by decide) dX7_init_41 ?_
  exact hret _ _ _ dX7_init_44 ⟨q0, q1, q2, q3, q4, rfl⟩
def mk_X0 (E : fp_E) (h : Nat) (n0 : Nat) (q0 : Nat) (q1 : Nat) (q2 : Nat) (q3 : Nat) (q4 : Nat) (q5 : Nat) (q6 : Nat) (q7 : Nat) : va_W := [(h, .inr (0, [.ref q0, .ref q1, .ref q2, .ref q3, .ref q4, .ref q5, .ref q6, .ref q7])),
  (q0, .inl (E.2.2 .int, 60, .inl (fun _ => 0))),
  (q1, .inl (E.2.2 .int, 60, .inl (fun _ => 0))),
  (q2, .inl (E.2.2 .int, 60, .inl (fun _ => 0))),
  (q3, .inl (E.2.2 .boolean, 60, .inl (fun _ => 0))),
  (q4, .inl (E.2.2 .int, 60, .inl (fun _ => 0))),
  (q5, .inl (E.2.2 .int, 60, .inl (fun _ => 0))),
  (q6, .inl (E.2.2 .boolean, 60, .inl (fun _ => 0))),
  (q7, .inl (E.2.2 .byte, n0, .inl (fun _ => 0)))]
set_option maxHeartbeats 4000000 in
set_option maxRecDepth 100000 in
theorem ii_X0 {l : Launch} {E : fp_E} {lo h : Nat} {n0 : Nat} (hn00 : n0 ≤ 2400 := by decide) : fp_I l E lo yX0_init cX0_init 2 1 8 (420 + n0) [.ref h, .int (nI n0)] [(h, .inr (0, [.null, .null, .null, .null, .null, .null, .null, .null]))] (fun w1 => ∃ (q0 : Nat) (q1 : Nat) (q2 : Nat) (q3 : Nat) (q4 : Nat) (q5 : Nat) (q6 : Nat) (q7 : Nat), w1 = mk_X0 E h n0 q0 q1 q2 q3 q4 q5 q6 q7) := by
  have hn0 : n0 < 2 ^ 31 := by omega
  refine fp_enterI rfl [some (.ref h), some (.int (nI n0))] (Nat.le_of_ble_eq_true rfl) (fun q hq => hq) (fun Y hE hl hlo hn hR hin C hret => ?_)
  subst hE hl hlo
  refine wc_aload_n C (i := 0) dX0_init_0 rfl rfl ?_
  refine wc_obj C ob_X0_3 ob_i ob_c dX0_init_1 (by rw [hR]; decide) (by rw [hR]; decide) (Nat.le_of_ble_eq_true rfl) ?_
  refine wc_aload_n C (i := 0) dX0_init_4 rfl rfl ?_
  refine wc_bipush C (v := 60) dX0_init_5 (by decide) ?_
  refine wc_newa C (t0 := 0) (N := 60) rfl rfl (fun _ _ h => h) ar_int (fun _ => rfl) (by decide) (by decide) (by decide) (by rw [hR]; decide) (by rw [hR]; decide) dX0_init_7 (fun q0 => ?_)
  refine wc_putF C (p := 0) (j := 0) (hin rfl) rfl rfl in_X0 (by decide) tyX0 tyX0_ok nmX0 f_X0_9 rfl rfl (tyX0_ok 0 (by decide)) rfl rfl (by decide) dX0_init_9 ?_
  refine wc_aload_n C (i := 0) dX0_init_12 rfl rfl ?_
  refine wc_bipush C (v := 60) dX0_init_13 (by decide) ?_
  refine wc_newa C (t0 := 0) (N := 60) rfl rfl (fun _ _ h => h) ar_int (fun _ => rfl) (by decide) (by decide) (by decide) (by rw [hR]; decide) (by rw [hR]; decide) dX0_init_15 (fun q1 => ?_)
  refine wc_putF C (p := 0) (j := 1) (hin rfl) rfl rfl in_X0 (by decide) tyX0 tyX0_ok nmX0 f_X0_15 rfl rfl (tyX0_ok 1 (by decide)) rfl rfl (by decide) dX0_init_17 ?_
  refine wc_aload_n C (i := 0) dX0_init_20 rfl rfl ?_
  refine wc_bipush C (v := 60) dX0_init_21 (by decide) ?_
  refine wc_newa C (t0 := 0) (N := 60) rfl rfl (fun _ _ h => h) ar_int (fun _ => rfl) (by decide) (by decide) (by decide) (by rw [hR]; decide) (by rw [hR]; decide) dX0_init_23 (fun q2 => ?_)
  refine wc_putF C (p := 0) (j := 2) (hin rfl) rfl rfl in_X0 (by decide) tyX0 tyX0_ok nmX0 f_X0_18 rfl rfl (tyX0_ok 2 (by decide)) rfl rfl (by decide) dX0_init_25 ?_
  refine wc_aload_n C (i := 0) dX0_init_28 rfl rfl ?_
  refine wc_bipush C (v := 60) dX0_init_29 (by decide) ?_
  refine wc_newa C (t0 := 1) (N := 60) rfl rfl (fun _ _ h => h) ar_boolean (fun _ => rfl) (by decide) (by decide) (by decide) (by rw [hR]; decide) (by rw [hR]; decide) dX0_init_31 (fun q3 => ?_)
  refine wc_putF C (p := 0) (j := 3) (hin rfl) rfl rfl in_X0 (by decide) tyX0 tyX0_ok nmX0 f_X0_21 rfl rfl (tyX0_ok 3 (by decide)) rfl rfl (by decide) dX0_init_33 ?_
  refine wc_aload_n C (i := 0) dX0_init_36 rfl rfl ?_
  refine wc_bipush C (v := 60) dX0_init_37 (by decide) ?_
  refine wc_newa C (t0 := 0) (N := 60) rfl rfl (fun _ _ h => h) ar_int (fun _ => rfl) (by decide) (by decide) (by decide) (by rw [hR]; decide) (by rw [hR]; decide) dX0_init_39 (fun q4 => ?_)
  refine wc_putF C (p := 0) (j := 4) (hin rfl) rfl rfl in_X0 (by decide) tyX0 tyX0_ok nmX0 f_X0_25 rfl rfl (tyX0_ok 4 (by decide)) rfl rfl (by decide) dX0_init_41 ?_
  refine wc_aload_n C (i := 0) dX0_init_44 rfl rfl ?_
  refine wc_bipush C (v := 60) dX0_init_45 (by decide) ?_
  refine wc_newa C (t0 := 0) (N := 60) rfl rfl (fun _ _ h => h) ar_int (fun _ => rfl) (by decide) (by decide) (by decide) (by rw [hR]; decide) (by rw [hR]; decide) dX0_init_47 (fun q5 => ?_)
  refine wc_putF C (p := 0) (j := 5) (hin rfl) rfl rfl in_X0 (by decide) tyX0 tyX0_ok nmX0 f_X0_28 rfl rfl (tyX0_ok 5 (by decide)) rfl rfl (by decide) dX0_init_49 ?_
  refine wc_aload_n C (i := 0) dX0_init_52 rfl rfl ?_
  refine wc_bipush C (v := 60) dX0_init_53 (by decide) ?_
  refine wc_newa C (t0 := 1) (N := 60) rfl rfl (fun _ _ h => h) ar_boolean (fun _ => rfl) (by decide) (by decide) (by decide) (by rw [hR]; decide) (by rw [hR]; decide) dX0_init_55 (fun q6 => ?_)
  refine wc_putF C (p := 0) (j := 6) (hin rfl) rfl rfl in_X0 (by decide) tyX0 tyX0_ok nmX0 f_X0_31 rfl rfl (tyX0_ok 6 (by decide)) rfl rfl (by decide) dX0_init_57 ?_
  refine wc_aload_n C (i := 0) dX0_init_60 rfl rfl ?_
  refine wc_iload_n C (i := 1) dX0_init_61 rfl rfl ?_
  refine wc_iconst C (v := 0) dX0_init_62 (by decide) ?_
  refine wc_mmax C q_X0_34 (by rw [hR]; decide) (by rw [hR]; decide) (Nat.le_of_ble_eq_true rfl) (by rw [hR]; decide) (by rw [hR]; show _ ≤ _ + n0; omega) dX0_init_63 ?_
  rw [if_neg (nI_pos hn0)]
  refine wc_newa C (t0 := 2) (N := n0) rfl rfl (fun _ _ h => h) ar_byte (fun _ => rfl) (nI_pos hn0) (nI_clamp hn0) (Nat.le_trans (Nat.mul_le_mul_right _ hn00) (by decide)) (by rw [hR]; decide) (by rw [hR]; show _ + n0 ≤ _ + n0; exact Nat.le_refl _) dX0_init_66 (fun q7 => ?_)
  refine wc_putF C (p := 0) (j := 7) (hin rfl) rfl rfl in_X0 (by decide) tyX0 tyX0_ok nmX0 f_X0_40 rfl rfl (tyX0_ok 7 (by decide)) rfl rfl (by decide) dX0_init_68 ?_
  exact hret _ _ _ dX0_init_71 ⟨q0, q1, q2, q3, q4, q5, q6, q7, rfl⟩
def mk_X2 (E : fp_E) (h : Nat) (q0 : Nat) (q1 : Nat) (q2 : Nat) (q3 : Nat) (q4 : Nat) (q5 : Nat) (q6 : Nat) (q7 : Nat) (q8 : Nat) (q9 : Nat) (q10 : Nat) (f0 : Nat → Int32) : va_W := [(h, .inr (2, [.ref q0, .ref q1, .ref q2, .int 0, .ref q3, .ref q4, .ref q5, .ref q6, .ref q7, .int 0, .ref q8, .ref q9, .ref q10, .int 0])),
  (q0, .inl (E.2.2 .int, 12, .inl (fun _ => 0))),
  (q1, .inl (E.2.2 .boolean, 12, .inl (fun _ => 0))),
  (q3, .inl (E.2.2 .int, 24, .inl (fun _ => 0))),
  (q4, .inl (E.2.2 .int, 24, .inl (fun _ => 0))),
  (q5, .inl (E.2.2 .int, 24, .inl (fun _ => 0))),
  (q6, .inl (E.2.2 .int, 24, .inl (fun _ => 0))),
  (q7, .inl (E.2.2 .int, 24, .inl (fun _ => 0))),
  (q8, .inl (E.2.2 .int, 40, .inl (fun _ => 0))),
  (q9, .inl (E.2.2 .int, 40, .inl (fun _ => 0))),
  (q10, .inl (E.2.2 .int, 40, .inl (fun _ => 0))),
  (q2, .inl (E.2.2 .int, 144, .inl f0))]
set_option maxHeartbeats 4000000 in
set_option maxRecDepth 100000 in
theorem ii_X2 {l : Launch} {E : fp_E} {lo h : Nat} : fp_I l E lo yX2_init cX2_init 2 2 11 408 [.ref h] [(h, .inr (2, [.null, .null, .null, .int 0, .null, .null, .null, .null, .null, .int 0, .null, .null, .null, .int 0]))] (fun w1 => ∃ (q0 : Nat) (q1 : Nat) (q2 : Nat) (q3 : Nat) (q4 : Nat) (q5 : Nat) (q6 : Nat) (q7 : Nat) (q8 : Nat) (q9 : Nat) (q10 : Nat) (f0 : Nat → Int32), (∀ j, j < 144 → f0 j = if j % 13 = 0 then 0 else 1000000) ∧ w1 = mk_X2 E h q0 q1 q2 q3 q4 q5 q6 q7 q8 q9 q10 f0) := by
  refine fp_enterI rfl [some (.ref h), none] (Nat.le_of_ble_eq_true rfl) (fun q hq => hq) (fun Y hE hl hlo hn hR hin C hret => ?_)
  subst hE hl hlo
  refine wc_aload_n C (i := 0) dX2_init_0 rfl rfl ?_
  refine wc_obj C ob_X2_3 ob_i ob_c dX2_init_1 (by rw [hR]; decide) (by rw [hR]; decide) (Nat.le_of_ble_eq_true rfl) ?_
  refine wc_aload_n C (i := 0) dX2_init_4 rfl rfl ?_
  refine wc_bipush C (v := 12) dX2_init_5 (by decide) ?_
  refine wc_newa C (t0 := 0) (N := 12) rfl rfl (fun _ _ h => h) ar_int (fun _ => rfl) (by decide) (by decide) (by decide) (by rw [hR]; decide) (by rw [hR]; decide) dX2_init_7 (fun q0 => ?_)
  refine wc_putF C (p := 0) (j := 0) (hin rfl) rfl rfl in_X2 (by decide) tyX2 tyX2_ok nmX2 f_X2_9 rfl rfl (tyX2_ok 0 (by decide)) rfl rfl (by decide) dX2_init_9 ?_
  refine wc_aload_n C (i := 0) dX2_init_12 rfl rfl ?_
  refine wc_bipush C (v := 12) dX2_init_13 (by decide) ?_
  refine wc_newa C (t0 := 1) (N := 12) rfl rfl (fun _ _ h => h) ar_boolean (fun _ => rfl) (by decide) (by decide) (by decide) (by rw [hR]; decide) (by rw [hR]; decide) dX2_init_15 (fun q1 => ?_)
  refine wc_putF C (p := 0) (j := 1) (hin rfl) rfl rfl in_X2 (by decide) tyX2 tyX2_ok nmX2 f_X2_15 rfl rfl (tyX2_ok 1 (by decide)) rfl rfl (by decide) dX2_init_17 ?_
  refine wc_aload_n C (i := 0) dX2_init_20 rfl rfl ?_
  refine wc_sipush C (v := 144) dX2_init_21 (by decide) ?_
  refine wc_newa C (t0 := 0) (N := 144) rfl rfl (fun _ _ h => h) ar_int (fun _ => rfl) (by decide) (by decide) (by decide) (by rw [hR]; decide) (by rw [hR]; decide) dX2_init_24 (fun q2 => ?_)
  refine wc_putF C (p := 0) (j := 2) (hin rfl) rfl rfl in_X2 (by decide) tyX2 tyX2_ok nmX2 f_X2_19 rfl rfl (tyX2_ok 2 (by decide)) rfl rfl (by decide) dX2_init_26 ?_
  refine wc_aload_n C (i := 0) dX2_init_29 rfl rfl ?_
  refine wc_bipush C (v := 24) dX2_init_30 (by decide) ?_
  refine wc_newa C (t0 := 0) (N := 24) rfl rfl (fun _ _ h => h) ar_int (fun _ => rfl) (by decide) (by decide) (by decide) (by rw [hR]; decide) (by rw [hR]; decide) dX2_init_32 (fun q3 => ?_)
  refine wc_putF C (p := 0) (j := 4) (hin rfl) rfl rfl in_X2 (by decide) tyX2 tyX2_ok nmX2 f_X2_22 rfl rfl (tyX2_ok 4 (by decide)) rfl rfl (by decide) dX2_init_34 ?_
  refine wc_aload_n C (i := 0) dX2_init_37 rfl rfl ?_
  refine wc_bipush C (v := 24) dX2_init_38 (by decide) ?_
  refine wc_newa C (t0 := 0) (N := 24) rfl rfl (fun _ _ h => h) ar_int (fun _ => rfl) (by decide) (by decide) (by decide) (by rw [hR]; decide) (by rw [hR]; decide) dX2_init_40 (fun q4 => ?_)
  refine wc_putF C (p := 0) (j := 5) (hin rfl) rfl rfl in_X2 (by decide) tyX2 tyX2_ok nmX2 f_X2_25 rfl rfl (tyX2_ok 5 (by decide)) rfl rfl (by decide) dX2_init_42 ?_
  refine wc_aload_n C (i := 0) dX2_init_45 rfl rfl ?_
  refine wc_bipush C (v := 24) dX2_init_46 (by decide) ?_
  refine wc_newa C (t0 := 0) (N := 24) rfl rfl (fun _ _ h => h) ar_int (fun _ => rfl) (by decide) (by decide) (by decide) (by rw [hR]; decide) (by rw [hR]; decide) dX2_init_48 (fun q5 => ?_)
  refine wc_putF C (p := 0) (j := 6) (hin rfl) rfl rfl in_X2 (by decide) tyX2 tyX2_ok nmX2 f_X2_28 rfl rfl (tyX2_ok 6 (by decide)) rfl rfl (by decide) dX2_init_50 ?_
  refine wc_aload_n C (i := 0) dX2_init_53 rfl rfl ?_
  refine wc_bipush C (v := 24) dX2_init_54 (by decide) ?_
  refine wc_newa C (t0 := 0) (N := 24) rfl rfl (fun _ _ h => h) ar_int (fun _ => rfl) (by decide) (by decide) (by decide) (by rw [hR]; decide) (by rw [hR]; decide) dX2_init_56 (fun q6 => ?_)
  refine wc_putF C (p := 0) (j := 7) (hin rfl) rfl rfl in_X2 (by decide) tyX2 tyX2_ok nmX2 f_X2_31 rfl rfl (tyX2_ok 7 (by decide)) rfl rfl (by decide) dX2_init_58 ?_
  refine wc_aload_n C (i := 0) dX2_init_61 rfl rfl ?_
  refine wc_bipush C (v := 24) dX2_init_62 (by decide) ?_
  refine wc_newa C (t0 := 0) (N := 24) rfl rfl (fun _ _ h => h) ar_int (fun _ => rfl) (by decide) (by decide) (by decide) (by rw [hR]; decide) (by rw [hR]; decide) dX2_init_64 (fun q7 => ?_)
  refine wc_putF C (p := 0) (j := 8) (hin rfl) rfl rfl in_X2 (by decide) tyX2 tyX2_ok nmX2 f_X2_34 rfl rfl (tyX2_ok 8 (by decide)) rfl rfl (by decide) dX2_init_66 ?_
  refine wc_aload_n C (i := 0) dX2_init_69 rfl rfl ?_
  refine wc_bipush C (v := 40) dX2_init_70 (by decide) ?_
  refine wc_newa C (t0 := 0) (N := 40) rfl rfl (fun _ _ h => h) ar_int (fun _ => rfl) (by decide) (by decide) (by decide) (by rw [hR]; decide) (by rw [hR]; decide) dX2_init_72 (fun q8 => ?_)
  refine wc_putF C (p := 0) (j := 10) (hin rfl) rfl rfl in_X2 (by decide) tyX2 tyX2_ok nmX2 f_X2_37 rfl rfl (tyX2_ok 10 (by decide)) rfl rfl (by decide) dX2_init_74 ?_
  refine wc_aload_n C (i := 0) dX2_init_77 rfl rfl ?_
  refine wc_bipush C (v := 40) dX2_init_78 (by decide) ?_
  refine wc_newa C (t0 := 0) (N := 40) rfl rfl (fun _ _ h => h) ar_int (fun _ => rfl) (by decide) (by decide) (by decide) (by rw [hR]; decide) (by rw [hR]; decide) dX2_init_80 (fun q9 => ?_)
  refine wc_putF C (p := 0) (j := 11) (hin rfl) rfl rfl in_X2 (by decide) tyX2 tyX2_ok nmX2 f_X2_40 rfl rfl (tyX2_ok 11 (by decide)) rfl rfl (by decide) dX2_init_82 ?_
  refine wc_aload_n C (i := 0) dX2_init_85 rfl rfl ?_
  refine wc_bipush C (v := 40) dX2_init_86 (by decide) ?_
  refine wc_newa C (t0 := 0) (N := 40) rfl rfl (fun _ _ h => h) ar_int (fun _ => rfl) (by decide) (by decide) (by decide) (by rw [hR]; decide) (by rw [hR]; decide) dX2_init_88 (fun q10 => ?_)
  refine wc_putF C (p := 0) (j := 12) (hin rfl) rfl rfl in_X2 (by decide) tyX2 tyX2_ok nmX2 f_X2_43 rfl rfl (tyX2_ok 12 (by decide)) rfl rfl (by decide) dX2_init_90 ?_
  refine wc_aload_n C (i := 0) dX2_init_93 rfl rfl ?_
  refine wc_getR C (p := 0) (j := 2) rfl rfl in_X2 (by decide) rfl f_X2_19 dX2_init_94 ?_
  refine wc_ldc C (v := 1000000) k_X2_46 dX2_init_97 ?_
  refine wc_callS C (p := 3) (wr := [(h, .inr (2, [.ref q0, .ref q1, .ref q2, .int 0, .ref q3, .ref q4, .ref q5, .ref q6, .ref q7, .int 0, .ref q8, .ref q9, .ref q10, .int 0])), (q0, .inl (Y.2.1.2.2 .int, 12, .inl (fun _ => 0))), (q1, .inl (Y.2.1.2.2 .boolean, 12, .inl (fun _ => 0))), (q3, .inl (Y.2.1.2.2 .int, 24, .inl (fun _ => 0))), (q4, .inl (Y.2.1.2.2 .int, 24, .inl (fun _ => 0))), (q5, .inl (Y.2.1.2.2 .int, 24, .inl (fun _ => 0))), (q6, .inl (Y.2.1.2.2 .int, 24, .inl (fun _ => 0))), (q7, .inl (Y.2.1.2.2 .int, 24, .inl (fun _ => 0))), (q8, .inl (Y.2.1.2.2 .int, 40, .inl (fun _ => 0))), (q9, .inl (Y.2.1.2.2 .int, 40, .inl (fun _ => 0))), (q10, .inl (Y.2.1.2.2 .int, 40, .inl (fun _ => 0)))]) [0, 1, 2, 4, 5, 6, 7, 8, 9, 10, 11] s_X2_47 t_J7_fill_53178 (ii_fill (by decide)) rfl rfl (by decide) (by decide) dX2_init_99 rfl rfl (Nat.le_of_ble_eq_true rfl) (by rw [hR]; decide) (by rw [hR]; decide) (by rw [hR]; decide) (fun w1 hF => ?_)
  obtain ⟨f0, hf0, rfl⟩ := hF
  refine wc_iconst C (v := 0) dX2_init_102 (by decide) ?_
  have loop : ∀ (r k : Nat) (f : Nat → Int32), k + r = 12 → (∀ j, j < 144 → f j = if j % 13 = 0 ∧ j < 13 * k then 0 else 1000000) → WC Y 104 [some (.ref h), some (.int (nI k))] [] [(h, .inr (2, [.ref q0, .ref q1, .ref q2, .int 0, .ref q3, .ref q4, .ref q5, .ref q6, .ref q7, .int 0, .ref q8, .ref q9, .ref q10, .int 0])),
  (q0, .inl (Y.2.1.2.2 .int, 12, .inl (fun _ => 0))),
  (q1, .inl (Y.2.1.2.2 .boolean, 12, .inl (fun _ => 0))),
  (q3, .inl (Y.2.1.2.2 .int, 24, .inl (fun _ => 0))),
  (q4, .inl (Y.2.1.2.2 .int, 24, .inl (fun _ => 0))),
  (q5, .inl (Y.2.1.2.2 .int, 24, .inl (fun _ => 0))),
  (q6, .inl (Y.2.1.2.2 .int, 24, .inl (fun _ => 0))),
  (q7, .inl (Y.2.1.2.2 .int, 24, .inl (fun _ => 0))),
  (q8, .inl (Y.2.1.2.2 .int, 40, .inl (fun _ => 0))),
  (q9, .inl (Y.2.1.2.2 .int, 40, .inl (fun _ => 0))),
  (q10, .inl (Y.2.1.2.2 .int, 40, .inl (fun _ => 0))),
  (q2, .inl (Y.2.1.2.2 .int, 144, .inl f))] 11 408 := by
    intro r
    induction r with
    | zero =>
      intro k f hk hf
      refine wc_iload_n C (i := 1) dX2_init_104 rfl rfl ?_
      refine wc_bipush C (v := 12) dX2_init_105 (by decide) ?_
      refine wc_icmp_ge C (tgt := 128) dX2_init_107 (by decide) (fun c => ?_) (fun c => ?_)
      · refine hret _ _ _ dX2_init_128 ⟨q0, q1, q2, q3, q4, q5, q6, q7, q8, q9, q10, f, fun j hj => ?_, rfl⟩
        rw [hf j hj]
        by_cases z : j % 13 = 0
        · rw [if_pos ⟨z, by omega⟩, if_pos z]
        · rw [if_neg (fun q => z q.1), if_neg z]
      · exact absurd (nI_le (a := 12) (b := k) (by omega) (by omega)) c
    | succ r ih =>
      intro k f hk hf
      refine wc_iload_n C (i := 1) dX2_init_104 rfl rfl ?_
      refine wc_bipush C (v := 12) dX2_init_105 (by decide) ?_
      refine wc_icmp_ge C (tgt := 128) dX2_init_107 (by decide) (fun c => ?_) (fun c => ?_)
      · exact absurd c (nI_ge (a := k) (b := 12) (by omega) (by omega))
      · refine wc_aload_n C (i := 0) dX2_init_110 rfl rfl ?_
        refine wc_getR C (p := 0) (j := 2) rfl rfl in_X2 (by decide) rfl f_X2_19 dX2_init_111 ?_
        refine wc_iload_n C (i := 1) dX2_init_114 rfl rfl ?_
        refine wc_bipush C (v := 12) dX2_init_115 (by decide) ?_
        refine wc_imul C dX2_init_117 ?_
        refine wc_iload_n C (i := 1) dX2_init_118 rfl rfl ?_
        refine wc_iadd C dX2_init_119 ?_
        refine wc_iconst C (v := 0) dX2_init_120 (by decide) ?_
        have e9 : nI k * 12 + nI k = nI (13 * k) := by
          rw [show (12 : Int32) = nI 12 from rfl, pk_mul, nI_add]
          congr 1
          omega
        rw [e9]
        refine wc_iast C (p := 11) rfl (vp_in_nI (by omega) (by omega)) dX2_init_121 ?_
        refine wc_iinc C (i := 1) dX2_init_122 rfl (fp_inc1 _) (by rw [hn]; decide) rfl rfl ?_
        refine wc_goto C (tgt := 104) dX2_init_125 (by decide) ?_
        have := ih (k + 1) (upd f (nI (13 * k)).toNatClampNeg 0) (by omega) (fun j hj => by
          rw [nI_clamp (by omega)]
          by_cases z : j = 13 * k
          · subst z
            rw [if_pos ⟨by omega, by omega⟩]
            simp [upd]
          · simp only [upd, z, if_false]
            rw [hf j hj]
            by_cases z2 : j % 13 = 0 ∧ j < 13 * k
            · rw [if_pos z2, if_pos ⟨z2.1, by omega⟩]
            · rw [if_neg z2, if_neg (fun z3 => z2 ⟨z3.1, by omega⟩)])
        rw [nI_succ] at this
        exact this
  refine wc_istore_n C (i := 1) dX2_init_103 rfl (by rw [hn]; decide) rfl rfl ?_
  exact loop 12 0 f0 (by omega) (fun j hj => by rw [hf0 j hj, if_neg (fun z => by omega)])
def mk_X3 (E : fp_E) (h : Nat) (q0 : Nat) (q0_9 : Nat) (q1_9 : Nat) (q1 : Nat) (q2 : Nat) (q3 : Nat) (q4 : Nat) : va_W := [(h, .inr (3, [.ref q0, .int 0, .ref q1, .ref q2, .ref q3, .ref q4, .int 0])),
  (q0, .inr (5, [.ref q0_9, .ref q1_9, .int 0, .int 0, .int 0, .int 0, .int 0])),
  (q0_9, .inl (E.2.2 .byte, 60, .inl (fun _ => 0))),
  (q1_9, .inl (E.2.2 .int, 60, .inl (fun _ => 0))),
  (q1, .inl (E.2.2 .int, 30, .inl (fun _ => 0))),
  (q2, .inl (E.2.2 .int, 30, .inl (fun _ => 0))),
  (q3, .inl (E.2.2 .int, 30, .inl (fun _ => 0))),
  (q4, .inl (E.2.2 .int, 1800, .inl (fun _ => 0)))]
set_option maxHeartbeats 4000000 in
set_option maxRecDepth 100000 in
theorem ii_X3 {l : Launch} {E : fp_E} {lo h : Nat} : fp_I l E lo yX3_init cX3_init 1 2 7 2017 [.ref h] [(h, .inr (3, [.null, .int 0, .null, .null, .null, .null, .int 0]))] (fun w1 => ∃ (q0 : Nat) (q0_9 : Nat) (q1_9 : Nat) (q1 : Nat) (q2 : Nat) (q3 : Nat) (q4 : Nat), w1 = mk_X3 E h q0 q0_9 q1_9 q1 q2 q3 q4) := by
  refine fp_enterI rfl [some (.ref h)] (Nat.le_of_ble_eq_true rfl) (fun q hq => hq) (fun Y hE hl hlo hn hR hin C hret => ?_)
  subst hE hl hlo
  refine wc_aload_n C (i := 0) dX3_init_0 rfl rfl ?_
  refine wc_obj C ob_X3_3 ob_i ob_c dX3_init_1 (by rw [hR]; decide) (by rw [hR]; decide) (Nat.le_of_ble_eq_true rfl) ?_
  refine wc_aload_n C (i := 0) dX3_init_4 rfl rfl ?_
  refine wc_new C (ci := 5) (fs := [.null, .null, .int 0, .int 0, .int 0, .int 0, .int 0]) rfl in_X5 tyX5 tyX5_ok cl_X3_9 nw_X5 nz_X5 (by decide +kernel) (by rw [hR]; decide) (by rw [hR]; decide) dX3_init_5 (fun q0 => ?_)
  refine wc_dup C dX3_init_8 rfl ?_
  refine wc_callI C (p := 1) (wr := [(h, .inr (3, [.null, .int 0, .null, .null, .null, .null, .int 0]))]) [0] si_X5 (Or.inr ⟨_, C.2.2.2.2.2.1.2.2.2.2 _ (by decide)⟩) ii_X5 rfl rfl (by decide) (by decide) dX3_init_9 rfl rfl (Nat.le_of_ble_eq_true rfl) (by rw [hR]; decide) (by rw [hR]; decide) (by rw [hR]; decide) (fun w1 hF => ?_)
  obtain ⟨q0_9, q1_9, rfl⟩ := hF
  refine wc_putF C (p := 0) (j := 0) (hin rfl) rfl rfl in_X3 (by decide) tyX3 tyX3_ok nmX3 f_X3_12 rfl rfl (tyX3_ok 0 (by decide)) rfl rfl (by decide) dX3_init_12 ?_
  refine wc_aload_n C (i := 0) dX3_init_15 rfl rfl ?_
  refine wc_bipush C (v := 30) dX3_init_16 (by decide) ?_
  refine wc_newa C (t0 := 0) (N := 30) rfl rfl (fun _ _ h => h) ar_int (fun _ => rfl) (by decide) (by decide) (by decide) (by rw [hR]; decide) (by rw [hR]; decide) dX3_init_18 (fun q1 => ?_)
  refine wc_putF C (p := 0) (j := 2) (hin rfl) rfl rfl in_X3 (by decide) tyX3 tyX3_ok nmX3 f_X3_18 rfl rfl (tyX3_ok 2 (by decide)) rfl rfl (by decide) dX3_init_20 ?_
  refine wc_aload_n C (i := 0) dX3_init_23 rfl rfl ?_
  refine wc_bipush C (v := 30) dX3_init_24 (by decide) ?_
  refine wc_newa C (t0 := 0) (N := 30) rfl rfl (fun _ _ h => h) ar_int (fun _ => rfl) (by decide) (by decide) (by decide) (by rw [hR]; decide) (by rw [hR]; decide) dX3_init_26 (fun q2 => ?_)
  refine wc_putF C (p := 0) (j := 3) (hin rfl) rfl rfl in_X3 (by decide) tyX3 tyX3_ok nmX3 f_X3_22 rfl rfl (tyX3_ok 3 (by decide)) rfl rfl (by decide) dX3_init_28 ?_
  refine wc_aload_n C (i := 0) dX3_init_31 rfl rfl ?_
  refine wc_bipush C (v := 30) dX3_init_32 (by decide) ?_
  refine wc_newa C (t0 := 0) (N := 30) rfl rfl (fun _ _ h => h) ar_int (fun _ => rfl) (by decide) (by decide) (by decide) (by rw [hR]; decide) (by rw [hR]; decide) dX3_init_34 (fun q3 => ?_)
  refine wc_putF C (p := 0) (j := 4) (hin rfl) rfl rfl in_X3 (by decide) tyX3 tyX3_ok nmX3 f_X3_25 rfl rfl (tyX3_ok 4 (by decide)) rfl rfl (by decide) dX3_init_36 ?_
  refine wc_aload_n C (i := 0) dX3_init_39 rfl rfl ?_
  refine wc_sipush C (v := 1800) dX3_init_40 (by decide) ?_
  refine wc_newa C (t0 := 0) (N := 1800) rfl rfl (fun _ _ h => h) ar_int (fun _ => rfl) (by decide) (by decide) (by decide) (by rw [hR]; decide) (by rw [hR]; decide) dX3_init_43 (fun q4 => ?_)
  refine wc_putF C (p := 0) (j := 5) (hin rfl) rfl rfl in_X3 (by decide) tyX3 tyX3_ok nmX3 f_X3_28 rfl rfl (tyX3_ok 5 (by decide)) rfl rfl (by decide) dX3_init_45 ?_
  exact hret _ _ _ dX3_init_48 ⟨q0, q0_9, q1_9, q1, q2, q3, q4, rfl⟩
def mk_X4 (E : fp_E) (h : Nat) (q0 : Nat) (q0_9 : Nat) (q1_9 : Nat) (q2_9 : Nat) (q3_9 : Nat) (q4_9 : Nat) (q5_9 : Nat) (q6_9 : Nat) (q7_9 : Nat) (q8_9 : Nat) (q9_9 : Nat) (q10_9 : Nat) (f0_9 : Nat → Int32) (q1 : Nat) (q0_20 : Nat) (q1_20 : Nat) (q2_20 : Nat) (q3_20 : Nat) (q4_20 : Nat) (q5_20 : Nat) (q6_20 : Nat) (q7_20 : Nat) (q8_20 : Nat) (q9_20 : Nat) (q2 : Nat) (q0_31 : Nat) (q0_9_31 : Nat) (q1_9_31 : Nat) (q1_31 : Nat) (q2_31 : Nat) (q3_31 : Nat) (q4_31 : Nat) (q3 : Nat) (q0_42 : Nat) (q1_42 : Nat) (q2_42 : Nat) (q3_42 : Nat) (q4_42 : Nat) (q4 : Nat) (q5 : Nat) (q6 : Nat) : va_W := [(h, .inr (4, [.ref q0, .ref q1, .ref q2, .ref q3, .ref q4, .ref q5, .ref q6, .int 72])),
  (q0, .inr (2, [.ref q0_9, .ref q1_9, .ref q2_9, .int 0, .ref q3_9, .ref q4_9, .ref q5_9, .ref q6_9, .ref q7_9, .int 0, .ref q8_9, .ref q9_9, .ref q10_9, .int 0])),
  (q0_9, .inl (E.2.2 .int, 12, .inl (fun _ => 0))),
  (q1_9, .inl (E.2.2 .boolean, 12, .inl (fun _ => 0))),
  (q3_9, .inl (E.2.2 .int, 24, .inl (fun _ => 0))),
  (q4_9, .inl (E.2.2 .int, 24, .inl (fun _ => 0))),
  (q5_9, .inl (E.2.2 .int, 24, .inl (fun _ => 0))),
  (q6_9, .inl (E.2.2 .int, 24, .inl (fun _ => 0))),
  (q7_9, .inl (E.2.2 .int, 24, .inl (fun _ => 0))),
  (q8_9, .inl (E.2.2 .int, 40, .inl (fun _ => 0))),
  (q9_9, .inl (E.2.2 .int, 40, .inl (fun _ => 0))),
  (q10_9, .inl (E.2.2 .int, 40, .inl (fun _ => 0))),
  (q2_9, .inl (E.2.2 .int, 144, .inl f0_9)),
  (q1, .inr (6, [.ref q0_20, .ref q1_20, .ref q2_20, .ref q3_20, .int 0, .ref q4_20, .ref q5_20, .int 0, .ref q6_20, .ref q7_20, .ref q8_20, .ref q9_20, .int 0])),
  (q0_20, .inl (E.2.2 .int, 60, .inl (fun _ => 0))),
  (q1_20, .inl (E.2.2 .int, 60, .inl (fun _ => 0))),
  (q2_20, .inl (E.2.2 .int, 60, .inl (fun _ => 0))),
  (q3_20, .inl (E.2.2 .int, 60, .inl (fun _ => 0))),
  (q4_20, .inl (E.2.2 .int, 40, .inl (fun _ => 0))),
  (q5_20, .inl (E.2.2 .int, 40, .inl (fun _ => 0))),
  (q6_20, .inl (E.2.2 .int, 80, .inl (fun _ => 0))),
  (q7_20, .inl (E.2.2 .int, 80, .inl (fun _ => 0))),
  (q8_20, .inl (E.2.2 .int, 80, .inl (fun _ => 0))),
  (q9_20, .inl (E.2.2 .int, 80, .inl (fun _ => 0))),
  (q2, .inr (3, [.ref q0_31, .int 0, .ref q1_31, .ref q2_31, .ref q3_31, .ref q4_31, .int 0])),
  (q0_31, .inr (5, [.ref q0_9_31, .ref q1_9_31, .int 0, .int 0, .int 0, .int 0, .int 0])),
  (q0_9_31, .inl (E.2.2 .byte, 60, .inl (fun _ => 0))),
  (q1_9_31, .inl (E.2.2 .int, 60, .inl (fun _ => 0))),
  (q1_31, .inl (E.2.2 .int, 30, .inl (fun _ => 0))),
  (q2_31, .inl (E.2.2 .int, 30, .inl (fun _ => 0))),
  (q3_31, .inl (E.2.2 .int, 30, .inl (fun _ => 0))),
  (q4_31, .inl (E.2.2 .int, 1800, .inl (fun _ => 0))),
  (q3, .inr (1, [.ref q0_42, .ref q1_42, .ref q2_42, .ref q3_42, .ref q4_42, .int 0])),
  (q0_42, .inl (E.2.2 .int, 60, .inl (fun _ => 0))),
  (q1_42, .inl (E.2.2 .int, 60, .inl (fun _ => 0))),
  (q2_42, .inl (E.2.2 .int, 60, .inl (fun _ => 0))),
  (q3_42, .inl (E.2.2 .int, 60, .inl (fun _ => 0))),
  (q4_42, .inl (E.2.2 .int, 60, .inl (fun _ => 0))),
  (q4, .inl (E.2.2 .int, 60, .inl (fun _ => 0))),
  (q5, .inl (E.2.2 .int, 12, .inl (fun _ => 0))),
  (q6, .inl (E.2.2 .int, 9, .inl (fun _ => 0)))]
set_option maxHeartbeats 4000000 in
set_option maxRecDepth 100000 in
theorem ii_X4 {l : Launch} {E : fp_E} {lo h : Nat} : fp_I l E lo yX4_init cX4_init 1 3 40 3486 [.ref h] [(h, .inr (4, [.null, .null, .null, .null, .null, .null, .null, .int 0]))] (fun w1 => ∃ (q0 : Nat) (q0_9 : Nat) (q1_9 : Nat) (q2_9 : Nat) (q3_9 : Nat) (q4_9 : Nat) (q5_9 : Nat) (q6_9 : Nat) (q7_9 : Nat) (q8_9 : Nat) (q9_9 : Nat) (q10_9 : Nat) (f0_9 : Nat → Int32) (q1 : Nat) (q0_20 : Nat) (q1_20 : Nat) (q2_20 : Nat) (q3_20 : Nat) (q4_20 : Nat) (q5_20 : Nat) (q6_20 : Nat) (q7_20 : Nat) (q8_20 : Nat) (q9_20 : Nat) (q2 : Nat) (q0_31 : Nat) (q0_9_31 : Nat) (q1_9_31 : Nat) (q1_31 : Nat) (q2_31 : Nat) (q3_31 : Nat) (q4_31 : Nat) (q3 : Nat) (q0_42 : Nat) (q1_42 : Nat) (q2_42 : Nat) (q3_42 : Nat) (q4_42 : Nat) (q4 : Nat) (q5 : Nat) (q6 : Nat), (∀ j, j < 144 → f0_9 j = if j % 13 = 0 then 0 else 1000000) ∧ w1 = mk_X4 E h q0 q0_9 q1_9 q2_9 q3_9 q4_9 q5_9 q6_9 q7_9 q8_9 q9_9 q10_9 f0_9 q1 q0_20 q1_20 q2_20 q3_20 q4_20 q5_20 q6_20 q7_20 q8_20 q9_20 q2 q0_31 q0_9_31 q1_9_31 q1_31 q2_31 q3_31 q4_31 q3 q0_42 q1_42 q2_42 q3_42 q4_42 q4 q5 q6) := by
  refine fp_enterI rfl [some (.ref h)] (Nat.le_of_ble_eq_true rfl) (fun q hq => hq) (fun Y hE hl hlo hn hR hin C hret => ?_)
  subst hE hl hlo
  refine wc_aload_n C (i := 0) dX4_init_0 rfl rfl ?_
  refine wc_obj C ob_X4_3 ob_i ob_c dX4_init_1 (by rw [hR]; decide) (by rw [hR]; decide) (Nat.le_of_ble_eq_true rfl) ?_
  refine wc_aload_n C (i := 0) dX4_init_4 rfl rfl ?_
  refine wc_new C (ci := 2) (fs := [.null, .null, .null, .int 0, .null, .null, .null, .null, .null, .int 0, .null, .null, .null, .int 0]) rfl in_X2 tyX2 tyX2_ok cl_X4_9 nw_X2 nz_X2 (by decide +kernel) (by rw [hR]; decide) (by rw [hR]; decide) dX4_init_5 (fun q0 => ?_)
  refine wc_dup C dX4_init_8 rfl ?_
  refine wc_callI C (p := 1) (wr := [(h, .inr (4, [.null, .null, .null, .null, .null, .null, .null, .int 0]))]) [0] si_X2 (Or.inl ml_X4_11) ii_X2 rfl rfl (by decide) (by decide) dX4_init_9 rfl rfl (Nat.le_of_ble_eq_true rfl) (by rw [hR]; decide) (by rw [hR]; decide) (by rw [hR]; decide) (fun w1 hF => ?_)
  obtain ⟨q0_9, q1_9, q2_9, q3_9, q4_9, q5_9, q6_9, q7_9, q8_9, q9_9, q10_9, f0_9, hf0_9, rfl⟩ := hF
  refine wc_putF C (p := 0) (j := 0) (hin rfl) rfl rfl in_X4 (by decide) tyX4 tyX4_ok nmX4 f_X4_12 rfl rfl (tyX4_ok 0 (by decide)) rfl rfl (by decide) dX4_init_12 ?_
  refine wc_aload_n C (i := 0) dX4_init_15 rfl rfl ?_
  refine wc_new C (ci := 6) (fs := [.null, .null, .null, .null, .int 0, .null, .null, .int 0, .null, .null, .null, .null, .int 0]) rfl in_X6 tyX6 tyX6_ok cl_X4_18 nw_X6 nz_X6 (by decide +kernel) (by rw [hR]; decide) (by rw [hR]; decide) dX4_init_16 (fun q1 => ?_)
  refine wc_dup C dX4_init_19 rfl ?_
  refine wc_callI C (p := 13) (wr := [(h, .inr (4, [.ref q0, .null, .null, .null, .null, .null, .null, .int 0])), (q0, .inr (2, [.ref q0_9, .ref q1_9, .ref q2_9, .int 0, .ref q3_9, .ref q4_9, .ref q5_9, .ref q6_9, .ref q7_9, .int 0, .ref q8_9, .ref q9_9, .ref q10_9, .int 0])), (q0_9, .inl (Y.2.1.2.2 .int, 12, .inl (fun _ => 0))), (q1_9, .inl (Y.2.1.2.2 .boolean, 12, .inl (fun _ => 0))), (q3_9, .inl (Y.2.1.2.2 .int, 24, .inl (fun _ => 0))), (q4_9, .inl (Y.2.1.2.2 .int, 24, .inl (fun _ => 0))), (q5_9, .inl (Y.2.1.2.2 .int, 24, .inl (fun _ => 0))), (q6_9, .inl (Y.2.1.2.2 .int, 24, .inl (fun _ => 0))), (q7_9, .inl (Y.2.1.2.2 .int, 24, .inl (fun _ => 0))), (q8_9, .inl (Y.2.1.2.2 .int, 40, .inl (fun _ => 0))), (q9_9, .inl (Y.2.1.2.2 .int, 40, .inl (fun _ => 0))), (q10_9, .inl (Y.2.1.2.2 .int, 40, .inl (fun _ => 0))), (q2_9, .inl (Y.2.1.2.2 .int, 144, .inl f0_9))]) [0, 1, 2, 3, 4, 5, 6, 7, 8, 9, 10, 11, 12] si_X6 (Or.inr ⟨_, C.2.2.2.2.2.1.2.2.2.2 _ (by decide)⟩) ii_X6 rfl rfl (by decide) (by decide) dX4_init_20 rfl rfl (Nat.le_of_ble_eq_true rfl) (by rw [hR]; decide) (by rw [hR]; decide) (by rw [hR]; decide) (fun w1 hF => ?_)
  obtain ⟨q0_20, q1_20, q2_20, q3_20, q4_20, q5_20, q6_20, q7_20, q8_20, q9_20, rfl⟩ := hF
  refine wc_putF C (p := 0) (j := 1) (hin rfl) rfl rfl in_X4 (by decide) tyX4 tyX4_ok nmX4 f_X4_21 rfl rfl (tyX4_ok 1 (by decide)) rfl rfl (by decide) dX4_init_23 ?_
  refine wc_aload_n C (i := 0) dX4_init_26 rfl rfl ?_
  refine wc_new C (ci := 3) (fs := [.null, .int 0, .null, .null, .null, .null, .int 0]) rfl in_X3 tyX3 tyX3_ok cl_X4_25 nw_X3 nz_X3 (by decide +kernel) (by rw [hR]; decide) (by rw [hR]; decide) dX4_init_27 (fun q2 => ?_)
  refine wc_dup C dX4_init_30 rfl ?_
  refine wc_callI C (p := 24) (wr := [(h, .inr (4, [.ref q0, .ref q1, .null, .null, .null, .null, .null, .int 0])), (q0, .inr (2, [.ref q0_9, .ref q1_9, .ref q2_9, .int 0, .ref q3_9, .ref q4_9, .ref q5_9, .ref q6_9, .ref q7_9, .int 0, .ref q8_9, .ref q9_9, .ref q10_9, .int 0])), (q0_9, .inl (Y.2.1.2.2 .int, 12, .inl (fun _ => 0))), (q1_9, .inl (Y.2.1.2.2 .boolean, 12, .inl (fun _ => 0))), (q3_9, .inl (Y.2.1.2.2 .int, 24, .inl (fun _ => 0))), (q4_9, .inl (Y.2.1.2.2 .int, 24, .inl (fun _ => 0))), (q5_9, .inl (Y.2.1.2.2 .int, 24, .inl (fun _ => 0))), (q6_9, .inl (Y.2.1.2.2 .int, 24, .inl (fun _ => 0))), (q7_9, .inl (Y.2.1.2.2 .int, 24, .inl (fun _ => 0))), (q8_9, .inl (Y.2.1.2.2 .int, 40, .inl (fun _ => 0))), (q9_9, .inl (Y.2.1.2.2 .int, 40, .inl (fun _ => 0))), (q10_9, .inl (Y.2.1.2.2 .int, 40, .inl (fun _ => 0))), (q2_9, .inl (Y.2.1.2.2 .int, 144, .inl f0_9)), (q1, .inr (6, [.ref q0_20, .ref q1_20, .ref q2_20, .ref q3_20, .int 0, .ref q4_20, .ref q5_20, .int 0, .ref q6_20, .ref q7_20, .ref q8_20, .ref q9_20, .int 0])), (q0_20, .inl (Y.2.1.2.2 .int, 60, .inl (fun _ => 0))), (q1_20, .inl (Y.2.1.2.2 .int, 60, .inl (fun _ => 0))), (q2_20, .inl (Y.2.1.2.2 .int, 60, .inl (fun _ => 0))), (q3_20, .inl (Y.2.1.2.2 .int, 60, .inl (fun _ => 0))), (q4_20, .inl (Y.2.1.2.2 .int, 40, .inl (fun _ => 0))), (q5_20, .inl (Y.2.1.2.2 .int, 40, .inl (fun _ => 0))), (q6_20, .inl (Y.2.1.2.2 .int, 80, .inl (fun _ => 0))), (q7_20, .inl (Y.2.1.2.2 .int, 80, .inl (fun _ => 0))), (q8_20, .inl (Y.2.1.2.2 .int, 80, .inl (fun _ => 0))), (q9_20, .inl (Y.2.1.2.2 .int, 80, .inl (fun _ => 0)))]) [0, 1, 2, 3, 4, 5, 6, 7, 8, 9, 10, 11, 12, 13, 14, 15, 16, 17, 18, 19, 20, 21, 22, 23] si_X3 (Or.inr ⟨_, C.2.2.2.2.2.1.2.2.2.2 _ (by decide)⟩) ii_X3 rfl rfl (by decide) (by decide) dX4_init_31 rfl rfl (Nat.le_of_ble_eq_true rfl) (by rw [hR]; decide) (by rw [hR]; decide) (by rw [hR]; decide) (fun w1 hF => ?_)
  obtain ⟨q0_31, q0_9_31, q1_9_31, q1_31, q2_31, q3_31, q4_31, rfl⟩ := hF
  refine wc_putF C (p := 0) (j := 2) (hin rfl) rfl rfl in_X4 (by decide) tyX4 tyX4_ok nmX4 f_X4_28 rfl rfl (tyX4_ok 2 (by decide)) rfl rfl (by decide) dX4_init_34 ?_
  refine wc_aload_n C (i := 0) dX4_init_37 rfl rfl ?_
  refine wc_new C (ci := 1) (fs := [.null, .null, .null, .null, .null, .int 0]) rfl in_X1 tyX1 tyX1_ok cl_X4_32 nw_X1 nz_X1 (by decide +kernel) (by rw [hR]; decide) (by rw [hR]; decide) dX4_init_38 (fun q3 => ?_)
  refine wc_dup C dX4_init_41 rfl ?_
  refine wc_callI C (p := 32) (wr := [(h, .inr (4, [.ref q0, .ref q1, .ref q2, .null, .null, .null, .null, .int 0])), (q0, .inr (2, [.ref q0_9, .ref q1_9, .ref q2_9, .int 0, .ref q3_9, .ref q4_9, .ref q5_9, .ref q6_9, .ref q7_9, .int 0, .ref q8_9, .ref q9_9, .ref q10_9, .int 0])), (q0_9, .inl (Y.2.1.2.2 .int, 12, .inl (fun _ => 0))), (q1_9, .inl (Y.2.1.2.2 .boolean, 12, .inl (fun _ => 0))), (q3_9, .inl (Y.2.1.2.2 .int, 24, .inl (fun _ => 0))), (q4_9, .inl (Y.2.1.2.2 .int, 24, .inl (fun _ => 0))), (q5_9, .inl (Y.2.1.2.2 .int, 24, .inl (fun _ => 0))), (q6_9, .inl (Y.2.1.2.2 .int, 24, .inl (fun _ => 0))), (q7_9, .inl (Y.2.1.2.2 .int, 24, .inl (fun _ => 0))), (q8_9, .inl (Y.2.1.2.2 .int, 40, .inl (fun _ => 0))), (q9_9, .inl (Y.2.1.2.2 .int, 40, .inl (fun _ => 0))), (q10_9, .inl (Y.2.1.2.2 .int, 40, .inl (fun _ => 0))), (q2_9, .inl (Y.2.1.2.2 .int, 144, .inl f0_9)), (q1, .inr (6, [.ref q0_20, .ref q1_20, .ref q2_20, .ref q3_20, .int 0, .ref q4_20, .ref q5_20, .int 0, .ref q6_20, .ref q7_20, .ref q8_20, .ref q9_20, .int 0])), (q0_20, .inl (Y.2.1.2.2 .int, 60, .inl (fun _ => 0))), (q1_20, .inl (Y.2.1.2.2 .int, 60, .inl (fun _ => 0))), (q2_20, .inl (Y.2.1.2.2 .int, 60, .inl (fun _ => 0))), (q3_20, .inl (Y.2.1.2.2 .int, 60, .inl (fun _ => 0))), (q4_20, .inl (Y.2.1.2.2 .int, 40, .inl (fun _ => 0))), (q5_20, .inl (Y.2.1.2.2 .int, 40, .inl (fun _ => 0))), (q6_20, .inl (Y.2.1.2.2 .int, 80, .inl (fun _ => 0))), (q7_20, .inl (Y.2.1.2.2 .int, 80, .inl (fun _ => 0))), (q8_20, .inl (Y.2.1.2.2 .int, 80, .inl (fun _ => 0))), (q9_20, .inl (Y.2.1.2.2 .int, 80, .inl (fun _ => 0))), (q2, .inr (3, [.ref q0_31, .int 0, .ref q1_31, .ref q2_31, .ref q3_31, .ref q4_31, .int 0])), (q0_31, .inr (5, [.ref q0_9_31, .ref q1_9_31, .int 0, .int 0, .int 0, .int 0, .int 0])), (q0_9_31, .inl (Y.2.1.2.2 .byte, 60, .inl (fun _ => 0))), (q1_9_31, .inl (Y.2.1.2.2 .int, 60, .inl (fun _ => 0))), (q1_31, .inl (Y.2.1.2.2 .int, 30, .inl (fun _ => 0))), (q2_31, .inl (Y.2.1.2.2 .int, 30, .inl (fun _ => 0))), (q3_31, .inl (Y.2.1.2.2 .int, 30, .inl (fun _ => 0))), (q4_31, .inl (Y.2.1.2.2 .int, 1800, .inl (fun _ => 0)))]) [0, 1, 2, 3, 4, 5, 6, 7, 8, 9, 10, 11, 12, 13, 14, 15, 16, 17, 18, 19, 20, 21, 22, 23, 24, 25, 26, 27, 28, 29, 30, 31] si_X1 (Or.inr ⟨_, C.2.2.2.2.2.1.2.2.2.2 _ (by decide)⟩) ii_X1 rfl rfl (by decide) (by decide) dX4_init_42 rfl rfl (Nat.le_of_ble_eq_true rfl) (by rw [hR]; decide) (by rw [hR]; decide) (by rw [hR]; decide) (fun w1 hF => ?_)
  obtain ⟨q0_42, q1_42, q2_42, q3_42, q4_42, rfl⟩ := hF
  refine wc_putF C (p := 0) (j := 3) (hin rfl) rfl rfl in_X4 (by decide) tyX4 tyX4_ok nmX4 f_X4_35 rfl rfl (tyX4_ok 3 (by decide)) rfl rfl (by decide) dX4_init_45 ?_
  refine wc_aload_n C (i := 0) dX4_init_48 rfl rfl ?_
  refine wc_bipush C (v := 60) dX4_init_49 (by decide) ?_
  refine wc_newa C (t0 := 0) (N := 60) rfl rfl (fun _ _ h => h) ar_int (fun _ => rfl) (by decide) (by decide) (by decide) (by rw [hR]; decide) (by rw [hR]; decide) dX4_init_51 (fun q4 => ?_)
  refine wc_putF C (p := 0) (j := 4) (hin rfl) rfl rfl in_X4 (by decide) tyX4 tyX4_ok nmX4 f_X4_39 rfl rfl (tyX4_ok 4 (by decide)) rfl rfl (by decide) dX4_init_53 ?_
  refine wc_aload_n C (i := 0) dX4_init_56 rfl rfl ?_
  refine wc_bipush C (v := 12) dX4_init_57 (by decide) ?_
  refine wc_newa C (t0 := 0) (N := 12) rfl rfl (fun _ _ h => h) ar_int (fun _ => rfl) (by decide) (by decide) (by decide) (by rw [hR]; decide) (by rw [hR]; decide) dX4_init_59 (fun q5 => ?_)
  refine wc_putF C (p := 0) (j := 5) (hin rfl) rfl rfl in_X4 (by decide) tyX4 tyX4_ok nmX4 f_X4_43 rfl rfl (tyX4_ok 5 (by decide)) rfl rfl (by decide) dX4_init_61 ?_
  refine wc_aload_n C (i := 0) dX4_init_64 rfl rfl ?_
  refine wc_ldcS C rfl dX4_init_65 ?_
  refine wc_callT C (q := 0) (by decide) rfl s_X4_50 i_J0_length_8abf5 e_J0_length_8abf5 ji_length dX4_init_67 (Nat.le_of_ble_eq_true rfl) (by rw [hR]; decide) (by rw [hR]; decide) (by rw [hR]; decide) ?_
  refine wc_newa C (t0 := 0) (N := 9) rfl rfl (fun _ _ h => h) ar_int (fun _ => rfl) (by decide) (by decide) (by decide) (by rw [hR]; decide) (by rw [hR]; decide) dX4_init_70 (fun q6 => ?_)
  refine wc_putF C (p := 0) (j := 6) (hin rfl) rfl rfl in_X4 (by decide) tyX4 tyX4_ok nmX4 f_X4_56 rfl rfl (tyX4_ok 6 (by decide)) rfl rfl (by decide) dX4_init_72 ?_
  refine wc_aload_n C (i := 0) dX4_init_75 rfl rfl ?_
  refine wc_bipush C (v := 72) dX4_init_76 (by decide) ?_
  refine wc_putI C (p := 0) (j := 7) rfl rfl in_X4 (by decide) tyX4 tyX4_ok nmX4 f_X4_59 rfl rfl (by decide) dX4_init_78 ?_
  exact hret _ _ _ dX4_init_81 ⟨q0, q0_9, q1_9, q2_9, q3_9, q4_9, q5_9, q6_9, q7_9, q8_9, q9_9, q10_9, f0_9, q1, q0_20, q1_20, q2_20, q3_20, q4_20, q5_20, q6_20, q7_20, q8_20, q9_20, q2, q0_31, q0_9_31, q1_9_31, q1_31, q2_31, q3_31, q4_31, q3, q0_42, q1_42, q2_42, q3_42, q4_42, q4, q5, q6, hf0_9, rfl⟩
def mk_X8 (E : fp_E) (h : Nat) (q0 : Nat) (q0_9 : Nat) (q0_9_9 : Nat) (q1_9_9 : Nat) (q2_9_9 : Nat) (q3_9_9 : Nat) (q4_9_9 : Nat) (q5_9_9 : Nat) (q6_9_9 : Nat) (q7_9_9 : Nat) (q8_9_9 : Nat) (q9_9_9 : Nat) (q10_9_9 : Nat) (f0_9_9 : Nat → Int32) (q1_9 : Nat) (q0_20_9 : Nat) (q1_20_9 : Nat) (q2_20_9 : Nat) (q3_20_9 : Nat) (q4_20_9 : Nat) (q5_20_9 : Nat) (q6_20_9 : Nat) (q7_20_9 : Nat) (q8_20_9 : Nat) (q9_20_9 : Nat) (q2_9 : Nat) (q0_31_9 : Nat) (q0_9_31_9 : Nat) (q1_9_31_9 : Nat) (q1_31_9 : Nat) (q2_31_9 : Nat) (q3_31_9 : Nat) (q4_31_9 : Nat) (q3_9 : Nat) (q0_42_9 : Nat) (q1_42_9 : Nat) (q2_42_9 : Nat) (q3_42_9 : Nat) (q4_42_9 : Nat) (q4_9 : Nat) (q5_9 : Nat) (q6_9 : Nat) (q1 : Nat) (q0_67 : Nat) (q1_67 : Nat) (q2_67 : Nat) (q3_67 : Nat) (q4_67 : Nat) (q5_67 : Nat) (q6_67 : Nat) (q7_67 : Nat) (q2 : Nat) (q0_79 : Nat) (q1_79 : Nat) (q2_79 : Nat) (q3_79 : Nat) (q4_79 : Nat) (q5_79 : Nat) (q6_79 : Nat) (q7_79 : Nat) (q3 : Nat) (q0_90 : Nat) (q1_90 : Nat) (q2_90 : Nat) (q3_90 : Nat) (q4_90 : Nat) (q4 : Nat) : va_W := [(h, .inr (8, [.ref q0, .ref q0_9, .ref q1_9, .ref q2_9, .ref q3_9, .ref q1, .ref q2, .ref q3, .ref q4, .int 0])),
  (q0, .inr (4, [.ref q0_9, .ref q1_9, .ref q2_9, .ref q3_9, .ref q4_9, .ref q5_9, .ref q6_9, .int 72])),
  (q0_9, .inr (2, [.ref q0_9_9, .ref q1_9_9, .ref q2_9_9, .int 0, .ref q3_9_9, .ref q4_9_9, .ref q5_9_9, .ref q6_9_9, .ref q7_9_9, .int 0, .ref q8_9_9, .ref q9_9_9, .ref q10_9_9, .int 0])),
  (q0_9_9, .inl (E.2.2 .int, 12, .inl (fun _ => 0))),
  (q1_9_9, .inl (E.2.2 .boolean, 12, .inl (fun _ => 0))),
  (q3_9_9, .inl (E.2.2 .int, 24, .inl (fun _ => 0))),
  (q4_9_9, .inl (E.2.2 .int, 24, .inl (fun _ => 0))),
  (q5_9_9, .inl (E.2.2 .int, 24, .inl (fun _ => 0))),
  (q6_9_9, .inl (E.2.2 .int, 24, .inl (fun _ => 0))),
  (q7_9_9, .inl (E.2.2 .int, 24, .inl (fun _ => 0))),
  (q8_9_9, .inl (E.2.2 .int, 40, .inl (fun _ => 0))),
  (q9_9_9, .inl (E.2.2 .int, 40, .inl (fun _ => 0))),
  (q10_9_9, .inl (E.2.2 .int, 40, .inl (fun _ => 0))),
  (q2_9_9, .inl (E.2.2 .int, 144, .inl f0_9_9)),
  (q1_9, .inr (6, [.ref q0_20_9, .ref q1_20_9, .ref q2_20_9, .ref q3_20_9, .int 0, .ref q4_20_9, .ref q5_20_9, .int 0, .ref q6_20_9, .ref q7_20_9, .ref q8_20_9, .ref q9_20_9, .int 0])),
  (q0_20_9, .inl (E.2.2 .int, 60, .inl (fun _ => 0))),
  (q1_20_9, .inl (E.2.2 .int, 60, .inl (fun _ => 0))),
  (q2_20_9, .inl (E.2.2 .int, 60, .inl (fun _ => 0))),
  (q3_20_9, .inl (E.2.2 .int, 60, .inl (fun _ => 0))),
  (q4_20_9, .inl (E.2.2 .int, 40, .inl (fun _ => 0))),
  (q5_20_9, .inl (E.2.2 .int, 40, .inl (fun _ => 0))),
  (q6_20_9, .inl (E.2.2 .int, 80, .inl (fun _ => 0))),
  (q7_20_9, .inl (E.2.2 .int, 80, .inl (fun _ => 0))),
  (q8_20_9, .inl (E.2.2 .int, 80, .inl (fun _ => 0))),
  (q9_20_9, .inl (E.2.2 .int, 80, .inl (fun _ => 0))),
  (q2_9, .inr (3, [.ref q0_31_9, .int 0, .ref q1_31_9, .ref q2_31_9, .ref q3_31_9, .ref q4_31_9, .int 0])),
  (q0_31_9, .inr (5, [.ref q0_9_31_9, .ref q1_9_31_9, .int 0, .int 0, .int 0, .int 0, .int 0])),
  (q0_9_31_9, .inl (E.2.2 .byte, 60, .inl (fun _ => 0))),
  (q1_9_31_9, .inl (E.2.2 .int, 60, .inl (fun _ => 0))),
  (q1_31_9, .inl (E.2.2 .int, 30, .inl (fun _ => 0))),
  (q2_31_9, .inl (E.2.2 .int, 30, .inl (fun _ => 0))),
  (q3_31_9, .inl (E.2.2 .int, 30, .inl (fun _ => 0))),
  (q4_31_9, .inl (E.2.2 .int, 1800, .inl (fun _ => 0))),
  (q3_9, .inr (1, [.ref q0_42_9, .ref q1_42_9, .ref q2_42_9, .ref q3_42_9, .ref q4_42_9, .int 0])),
  (q0_42_9, .inl (E.2.2 .int, 60, .inl (fun _ => 0))),
  (q1_42_9, .inl (E.2.2 .int, 60, .inl (fun _ => 0))),
  (q2_42_9, .inl (E.2.2 .int, 60, .inl (fun _ => 0))),
  (q3_42_9, .inl (E.2.2 .int, 60, .inl (fun _ => 0))),
  (q4_42_9, .inl (E.2.2 .int, 60, .inl (fun _ => 0))),
  (q4_9, .inl (E.2.2 .int, 60, .inl (fun _ => 0))),
  (q5_9, .inl (E.2.2 .int, 12, .inl (fun _ => 0))),
  (q6_9, .inl (E.2.2 .int, 9, .inl (fun _ => 0))),
  (q1, .inr (0, [.ref q0_67, .ref q1_67, .ref q2_67, .ref q3_67, .ref q4_67, .ref q5_67, .ref q6_67, .ref q7_67])),
  (q0_67, .inl (E.2.2 .int, 60, .inl (fun _ => 0))),
  (q1_67, .inl (E.2.2 .int, 60, .inl (fun _ => 0))),
  (q2_67, .inl (E.2.2 .int, 60, .inl (fun _ => 0))),
  (q3_67, .inl (E.2.2 .boolean, 60, .inl (fun _ => 0))),
  (q4_67, .inl (E.2.2 .int, 60, .inl (fun _ => 0))),
  (q5_67, .inl (E.2.2 .int, 60, .inl (fun _ => 0))),
  (q6_67, .inl (E.2.2 .boolean, 60, .inl (fun _ => 0))),
  (q7_67, .inl (E.2.2 .byte, 2400, .inl (fun _ => 0))),
  (q2, .inr (0, [.ref q0_79, .ref q1_79, .ref q2_79, .ref q3_79, .ref q4_79, .ref q5_79, .ref q6_79, .ref q7_79])),
  (q0_79, .inl (E.2.2 .int, 60, .inl (fun _ => 0))),
  (q1_79, .inl (E.2.2 .int, 60, .inl (fun _ => 0))),
  (q2_79, .inl (E.2.2 .int, 60, .inl (fun _ => 0))),
  (q3_79, .inl (E.2.2 .boolean, 60, .inl (fun _ => 0))),
  (q4_79, .inl (E.2.2 .int, 60, .inl (fun _ => 0))),
  (q5_79, .inl (E.2.2 .int, 60, .inl (fun _ => 0))),
  (q6_79, .inl (E.2.2 .boolean, 60, .inl (fun _ => 0))),
  (q7_79, .inl (E.2.2 .byte, 0, .inl (fun _ => 0))),
  (q3, .inr (7, [.ref q0_90, .ref q1_90, .ref q2_90, .int 0, .ref q3_90, .ref q4_90, .int 0])),
  (q0_90, .inl (E.2.2 .int, 7, .inl (fun _ => 0))),
  (q1_90, .inl (E.2.2 .int, 7, .inl (fun _ => 0))),
  (q2_90, .inl (E.2.2 .int, 7, .inl (fun _ => 0))),
  (q3_90, .inl (E.2.2 .int, 7, .inl (fun _ => 0))),
  (q4_90, .inl (E.2.2 .int, 12, .inl (fun _ => 0))),
  (q4, .inl (E.2.2 .int, 7, .inl (fun _ => 0)))]
set_option maxHeartbeats 4000000 in
set_option maxRecDepth 100000 in
theorem ii_X8 {l : Launch} {E : fp_E} {lo h : Nat} : fp_I l E lo yX8_init cX8_init 1 4 66 6804 [.ref h] [(h, .inr (8, [.null, .null, .null, .null, .null, .null, .null, .null, .null, .int 0]))] (fun w1 => ∃ (q0 : Nat) (q0_9 : Nat) (q0_9_9 : Nat) (q1_9_9 : Nat) (q2_9_9 : Nat) (q3_9_9 : Nat) (q4_9_9 : Nat) (q5_9_9 : Nat) (q6_9_9 : Nat) (q7_9_9 : Nat) (q8_9_9 : Nat) (q9_9_9 : Nat) (q10_9_9 : Nat) (f0_9_9 : Nat → Int32) (q1_9 : Nat) (q0_20_9 : Nat) (q1_20_9 : Nat) (q2_20_9 : Nat) (q3_20_9 : Nat) (q4_20_9 : Nat) (q5_20_9 : Nat) (q6_20_9 : Nat) (q7_20_9 : Nat) (q8_20_9 : Nat) (q9_20_9 : Nat) (q2_9 : Nat) (q0_31_9 : Nat) (q0_9_31_9 : Nat) (q1_9_31_9 : Nat) (q1_31_9 : Nat) (q2_31_9 : Nat) (q3_31_9 : Nat) (q4_31_9 : Nat) (q3_9 : Nat) (q0_42_9 : Nat) (q1_42_9 : Nat) (q2_42_9 : Nat) (q3_42_9 : Nat) (q4_42_9 : Nat) (q4_9 : Nat) (q5_9 : Nat) (q6_9 : Nat) (q1 : Nat) (q0_67 : Nat) (q1_67 : Nat) (q2_67 : Nat) (q3_67 : Nat) (q4_67 : Nat) (q5_67 : Nat) (q6_67 : Nat) (q7_67 : Nat) (q2 : Nat) (q0_79 : Nat) (q1_79 : Nat) (q2_79 : Nat) (q3_79 : Nat) (q4_79 : Nat) (q5_79 : Nat) (q6_79 : Nat) (q7_79 : Nat) (q3 : Nat) (q0_90 : Nat) (q1_90 : Nat) (q2_90 : Nat) (q3_90 : Nat) (q4_90 : Nat) (q4 : Nat), (∀ j, j < 144 → f0_9_9 j = if j % 13 = 0 then 0 else 1000000) ∧ w1 = mk_X8 E h q0 q0_9 q0_9_9 q1_9_9 q2_9_9 q3_9_9 q4_9_9 q5_9_9 q6_9_9 q7_9_9 q8_9_9 q9_9_9 q10_9_9 f0_9_9 q1_9 q0_20_9 q1_20_9 q2_20_9 q3_20_9 q4_20_9 q5_20_9 q6_20_9 q7_20_9 q8_20_9 q9_20_9 q2_9 q0_31_9 q0_9_31_9 q1_9_31_9 q1_31_9 q2_31_9 q3_31_9 q4_31_9 q3_9 q0_42_9 q1_42_9 q2_42_9 q3_42_9 q4_42_9 q4_9 q5_9 q6_9 q1 q0_67 q1_67 q2_67 q3_67 q4_67 q5_67 q6_67 q7_67 q2 q0_79 q1_79 q2_79 q3_79 q4_79 q5_79 q6_79 q7_79 q3 q0_90 q1_90 q2_90 q3_90 q4_90 q4) := by
  refine fp_enterI rfl [some (.ref h)] (Nat.le_of_ble_eq_true rfl) (fun q hq => hq) (fun Y hE hl hlo hn hR hin C hret => ?_)
  subst hE hl hlo
  refine wc_aload_n C (i := 0) dX8_init_0 rfl rfl ?_
  refine wc_obj C ob_X8_1 ob_i ob_c dX8_init_1 (by rw [hR]; decide) (by rw [hR]; decide) (Nat.le_of_ble_eq_true rfl) ?_
  refine wc_aload_n C (i := 0) dX8_init_4 rfl rfl ?_
  refine wc_new C (ci := 4) (fs := [.null, .null, .null, .null, .null, .null, .null, .int 0]) rfl in_X4 tyX4 tyX4_ok cl_X8_7 nw_X4 nz_X4 (by decide +kernel) (by rw [hR]; decide) (by rw [hR]; decide) dX8_init_5 (fun q0 => ?_)
  refine wc_dup C dX8_init_8 rfl ?_
  refine wc_callI C (p := 1) (wr := [(h, .inr (8, [.null, .null, .null, .null, .null, .null, .null, .null, .null, .int 0]))]) [0] si_X4 (Or.inr ⟨_, C.2.2.2.2.2.1.2.2.2.2 _ (by decide)⟩) ii_X4 rfl rfl (by decide) (by decide) dX8_init_9 rfl rfl (Nat.le_of_ble_eq_true rfl) (by rw [hR]; decide) (by rw [hR]; decide) (by rw [hR]; decide) (fun w1 hF => ?_)
  obtain ⟨q0_9, q0_9_9, q1_9_9, q2_9_9, q3_9_9, q4_9_9, q5_9_9, q6_9_9, q7_9_9, q8_9_9, q9_9_9, q10_9_9, f0_9_9, q1_9, q0_20_9, q1_20_9, q2_20_9, q3_20_9, q4_20_9, q5_20_9, q6_20_9, q7_20_9, q8_20_9, q9_20_9, q2_9, q0_31_9, q0_9_31_9, q1_9_31_9, q1_31_9, q2_31_9, q3_31_9, q4_31_9, q3_9, q0_42_9, q1_42_9, q2_42_9, q3_42_9, q4_42_9, q4_9, q5_9, q6_9, hf0_9_9, rfl⟩ := hF
  refine wc_putF C (p := 0) (j := 0) (hin rfl) rfl rfl in_X8 (by decide) tyX8 tyX8_ok nmX8 f_X8_10 rfl rfl (tyX8_ok 0 (by decide)) rfl rfl (by decide) dX8_init_12 ?_
  refine wc_aload_n C (i := 0) dX8_init_15 rfl rfl ?_
  refine wc_aload_n C (i := 0) dX8_init_16 rfl rfl ?_
  refine wc_getR C (p := 0) (j := 0) rfl rfl in_X8 (by decide) rfl f_X8_10 dX8_init_17 ?_
  refine wc_getR C (p := 1) (j := 0) rfl rfl in_X4 (by decide) rfl f_X8_16 dX8_init_20 ?_
  refine wc_putF C (p := 0) (j := 1) (hin rfl) rfl rfl in_X8 (by decide) tyX8 tyX8_ok nmX8 f_X8_20 rfl rfl (tyX8_ok 1 (by decide)) rfl rfl (by decide) dX8_init_23 ?_
  refine wc_aload_n C (i := 0) dX8_init_26 rfl rfl ?_
  refine wc_aload_n C (i := 0) dX8_init_27 rfl rfl ?_
  refine wc_getR C (p := 0) (j := 0) rfl rfl in_X8 (by decide) rfl f_X8_10 dX8_init_28 ?_
  refine wc_getR C (p := 1) (j := 1) rfl rfl in_X4 (by decide) rfl f_X8_21 dX8_init_31 ?_
  refine wc_putF C (p := 0) (j := 2) (hin rfl) rfl rfl in_X8 (by decide) tyX8 tyX8_ok nmX8 f_X8_25 rfl rfl (tyX8_ok 2 (by decide)) rfl rfl (by decide) dX8_init_34 ?_
  refine wc_aload_n C (i := 0) dX8_init_37 rfl rfl ?_
  refine wc_aload_n C (i := 0) dX8_init_38 rfl rfl ?_
  refine wc_getR C (p := 0) (j := 0) rfl rfl in_X8 (by decide) rfl f_X8_10 dX8_init_39 ?_
  refine wc_getR C (p := 1) (j := 2) rfl rfl in_X4 (by decide) rfl f_X8_26 dX8_init_42 ?_
  refine wc_putF C (p := 0) (j := 3) (hin rfl) rfl rfl in_X8 (by decide) tyX8 tyX8_ok nmX8 f_X8_30 rfl rfl (tyX8_ok 3 (by decide)) rfl rfl (by decide) dX8_init_45 ?_
  refine wc_aload_n C (i := 0) dX8_init_48 rfl rfl ?_
  refine wc_aload_n C (i := 0) dX8_init_49 rfl rfl ?_
  refine wc_getR C (p := 0) (j := 0) rfl rfl in_X8 (by decide) rfl f_X8_10 dX8_init_50 ?_
  refine wc_getR C (p := 1) (j := 3) rfl rfl in_X4 (by decide) rfl f_X8_31 dX8_init_53 ?_
  refine wc_putF C (p := 0) (j := 4) (hin rfl) rfl rfl in_X8 (by decide) tyX8 tyX8_ok nmX8 f_X8_35 rfl rfl (tyX8_ok 4 (by decide)) rfl rfl (by decide) dX8_init_56 ?_
  refine wc_aload_n C (i := 0) dX8_init_59 rfl rfl ?_
  refine wc_new C (ci := 0) (fs := [.null, .null, .null, .null, .null, .null, .null, .null]) rfl in_X0 tyX0 tyX0_ok cl_X8_36 nw_X0 nz_X0 (by decide +kernel) (by rw [hR]; decide) (by rw [hR]; decide) dX8_init_60 (fun q1 => ?_)
  refine wc_dup C dX8_init_63 rfl ?_
  refine wc_sipush C (v := 2400) dX8_init_64 (by decide) ?_
  refine wc_callI C (p := 42) (wr := [(h, .inr (8, [.ref q0, .ref q0_9, .ref q1_9, .ref q2_9, .ref q3_9, .null, .null, .null, .null, .int 0])), (q0, .inr (4, [.ref q0_9, .ref q1_9, .ref q2_9, .ref q3_9, .ref q4_9, .ref q5_9, .ref q6_9, .int 72])), (q0_9, .inr (2, [.ref q0_9_9, .ref q1_9_9, .ref q2_9_9, .int 0, .ref q3_9_9, .ref q4_9_9, .ref q5_9_9, .ref q6_9_9, .ref q7_9_9, .int 0, .ref q8_9_9, .ref q9_9_9, .ref q10_9_9, .int 0])), (q0_9_9, .inl (Y.2.1.2.2 .int, 12, .inl (fun _ => 0))), (q1_9_9, .inl (Y.2.1.2.2 .boolean, 12, .inl (fun _ => 0))), (q3_9_9, .inl (Y.2.1.2.2 .int, 24, .inl (fun _ => 0))), (q4_9_9, .inl (Y.2.1.2.2 .int, 24, .inl (fun _ => 0))), (q5_9_9, .inl (Y.2.1.2.2 .int, 24, .inl (fun _ => 0))), (q6_9_9, .inl (Y.2.1.2.2 .int, 24, .inl (fun _ => 0))), (q7_9_9, .inl (Y.2.1.2.2 .int, 24, .inl (fun _ => 0))), (q8_9_9, .inl (Y.2.1.2.2 .int, 40, .inl (fun _ => 0))), (q9_9_9, .inl (Y.2.1.2.2 .int, 40, .inl (fun _ => 0))), (q10_9_9, .inl (Y.2.1.2.2 .int, 40, .inl (fun _ => 0))), (q2_9_9, .inl (Y.2.1.2.2 .int, 144, .inl f0_9_9)), (q1_9, .inr (6, [.ref q0_20_9, .ref q1_20_9, .ref q2_20_9, .ref q3_20_9, .int 0, .ref q4_20_9, .ref q5_20_9, .int 0, .ref q6_20_9, .ref q7_20_9, .ref q8_20_9, .ref q9_20_9, .int 0])), (q0_20_9, .inl (Y.2.1.2.2 .int, 60, .inl (fun _ => 0))), (q1_20_9, .inl (Y.2.1.2.2 .int, 60, .inl (fun _ => 0))), (q2_20_9, .inl (Y.2.1.2.2 .int, 60, .inl (fun _ => 0))), (q3_20_9, .inl (Y.2.1.2.2 .int, 60, .inl (fun _ => 0))), (q4_20_9, .inl (Y.2.1.2.2 .int, 40, .inl (fun _ => 0))), (q5_20_9, .inl (Y.2.1.2.2 .int, 40, .inl (fun _ => 0))), (q6_20_9, .inl (Y.2.1.2.2 .int, 80, .inl (fun _ => 0))), (q7_20_9, .inl (Y.2.1.2.2 .int, 80, .inl (fun _ => 0))), (q8_20_9, .inl (Y.2.1.2.2 .int, 80, .inl (fun _ => 0))), (q9_20_9, .inl (Y.2.1.2.2 .int, 80, .inl (fun _ => 0))), (q2_9, .inr (3, [.ref q0_31_9, .int 0, .ref q1_31_9, .ref q2_31_9, .ref q3_31_9, .ref q4_31_9, .int 0])), (q0_31_9, .inr (5, [.ref q0_9_31_9, .ref q1_9_31_9, .int 0, .int 0, .int 0, .int 0, .int 0])), (q0_9_31_9, .inl (Y.2.1.2.2 .byte, 60, .inl (fun _ => 0))), (q1_9_31_9, .inl (Y.2.1.2.2 .int, 60, .inl (fun _ => 0))), (q1_31_9, .inl (Y.2.1.2.2 .int, 30, .inl (fun _ => 0))), (q2_31_9, .inl (Y.2.1.2.2 .int, 30, .inl (fun _ => 0))), (q3_31_9, .inl (Y.2.1.2.2 .int, 30, .inl (fun _ => 0))), (q4_31_9, .inl (Y.2.1.2.2 .int, 1800, .inl (fun _ => 0))), (q3_9, .inr (1, [.ref q0_42_9, .ref q1_42_9, .ref q2_42_9, .ref q3_42_9, .ref q4_42_9, .int 0])), (q0_42_9, .inl (Y.2.1.2.2 .int, 60, .inl (fun _ => 0))), (q1_42_9, .inl (Y.2.1.2.2 .int, 60, .inl (fun _ => 0))), (q2_42_9, .inl (Y.2.1.2.2 .int, 60, .inl (fun _ => 0))), (q3_42_9, .inl (Y.2.1.2.2 .int, 60, .inl (fun _ => 0))), (q4_42_9, .inl (Y.2.1.2.2 .int, 60, .inl (fun _ => 0))), (q4_9, .inl (Y.2.1.2.2 .int, 60, .inl (fun _ => 0))), (q5_9, .inl (Y.2.1.2.2 .int, 12, .inl (fun _ => 0))), (q6_9, .inl (Y.2.1.2.2 .int, 9, .inl (fun _ => 0)))]) [0, 1, 2, 3, 4, 5, 6, 7, 8, 9, 10, 11, 12, 13, 14, 15, 16, 17, 18, 19, 20, 21, 22, 23, 24, 25, 26, 27, 28, 29, 30, 31, 32, 33, 34, 35, 36, 37, 38, 39, 40, 41] si_X0 (Or.inl ml_X8_38) (ii_X0 (n0 := 2400)) rfl rfl (by decide) (by decide) dX8_init_67 rfl rfl (Nat.le_of_ble_eq_true rfl) (by rw [hR]; decide) (by rw [hR]; decide) (by rw [hR]; decide) (fun w1 hF => ?_)
  obtain ⟨q0_67, q1_67, q2_67, q3_67, q4_67, q5_67, q6_67, q7_67, rfl⟩ := hF
  refine wc_putF C (p := 0) (j := 5) (hin rfl) rfl rfl in_X8 (by decide) tyX8 tyX8_ok nmX8 f_X8_41 rfl rfl (tyX8_ok 5 (by decide)) rfl rfl (by decide) dX8_init_70 ?_
  refine wc_aload_n C (i := 0) dX8_init_73 rfl rfl ?_
  refine wc_new C (ci := 0) (fs := [.null, .null, .null, .null, .null, .null, .null, .null]) rfl in_X0 tyX0 tyX0_ok cl_X8_36 nw_X0 nz_X0 (by decide +kernel) (by rw [hR]; decide) (by rw [hR]; decide) dX8_init_74 (fun q2 => ?_)
  refine wc_dup C dX8_init_77 rfl ?_
  refine wc_iconst C (v := 0) dX8_init_78 (by decide) ?_
  refine wc_callI C (p := 51) (wr := [(h, .inr (8, [.ref q0, .ref q0_9, .ref q1_9, .ref q2_9, .ref q3_9, .ref q1, .null, .null, .null, .int 0])), (q0, .inr (4, [.ref q0_9, .ref q1_9, .ref q2_9, .ref q3_9, .ref q4_9, .ref q5_9, .ref q6_9, .int 72])), (q0_9, .inr (2, [.ref q0_9_9, .ref q1_9_9, .ref q2_9_9, .int 0, .ref q3_9_9, .ref q4_9_9, .ref q5_9_9, .ref q6_9_9, .ref q7_9_9, .int 0, .ref q8_9_9, .ref q9_9_9, .ref q10_9_9, .int 0])), (q0_9_9, .inl (Y.2.1.2.2 .int, 12, .inl (fun _ => 0))), (q1_9_9, .inl (Y.2.1.2.2 .boolean, 12, .inl (fun _ => 0))), (q3_9_9, .inl (Y.2.1.2.2 .int, 24, .inl (fun _ => 0))), (q4_9_9, .inl (Y.2.1.2.2 .int, 24, .inl (fun _ => 0))), (q5_9_9, .inl (Y.2.1.2.2 .int, 24, .inl (fun _ => 0))), (q6_9_9, .inl (Y.2.1.2.2 .int, 24, .inl (fun _ => 0))), (q7_9_9, .inl (Y.2.1.2.2 .int, 24, .inl (fun _ => 0))), (q8_9_9, .inl (Y.2.1.2.2 .int, 40, .inl (fun _ => 0))), (q9_9_9, .inl (Y.2.1.2.2 .int, 40, .inl (fun _ => 0))), (q10_9_9, .inl (Y.2.1.2.2 .int, 40, .inl (fun _ => 0))), (q2_9_9, .inl (Y.2.1.2.2 .int, 144, .inl f0_9_9)), (q1_9, .inr (6, [.ref q0_20_9, .ref q1_20_9, .ref q2_20_9, .ref q3_20_9, .int 0, .ref q4_20_9, .ref q5_20_9, .int 0, .ref q6_20_9, .ref q7_20_9, .ref q8_20_9, .ref q9_20_9, .int 0])), (q0_20_9, .inl (Y.2.1.2.2 .int, 60, .inl (fun _ => 0))), (q1_20_9, .inl (Y.2.1.2.2 .int, 60, .inl (fun _ => 0))), (q2_20_9, .inl (Y.2.1.2.2 .int, 60, .inl (fun _ => 0))), (q3_20_9, .inl (Y.2.1.2.2 .int, 60, .inl (fun _ => 0))), (q4_20_9, .inl (Y.2.1.2.2 .int, 40, .inl (fun _ => 0))), (q5_20_9, .inl (Y.2.1.2.2 .int, 40, .inl (fun _ => 0))), (q6_20_9, .inl (Y.2.1.2.2 .int, 80, .inl (fun _ => 0))), (q7_20_9, .inl (Y.2.1.2.2 .int, 80, .inl (fun _ => 0))), (q8_20_9, .inl (Y.2.1.2.2 .int, 80, .inl (fun _ => 0))), (q9_20_9, .inl (Y.2.1.2.2 .int, 80, .inl (fun _ => 0))), (q2_9, .inr (3, [.ref q0_31_9, .int 0, .ref q1_31_9, .ref q2_31_9, .ref q3_31_9, .ref q4_31_9, .int 0])), (q0_31_9, .inr (5, [.ref q0_9_31_9, .ref q1_9_31_9, .int 0, .int 0, .int 0, .int 0, .int 0])), (q0_9_31_9, .inl (Y.2.1.2.2 .byte, 60, .inl (fun _ => 0))), (q1_9_31_9, .inl (Y.2.1.2.2 .int, 60, .inl (fun _ => 0))), (q1_31_9, .inl (Y.2.1.2.2 .int, 30, .inl (fun _ => 0))), (q2_31_9, .inl (Y.2.1.2.2 .int, 30, .inl (fun _ => 0))), (q3_31_9, .inl (Y.2.1.2.2 .int, 30, .inl (fun _ => 0))), (q4_31_9, .inl (Y.2.1.2.2 .int, 1800, .inl (fun _ => 0))), (q3_9, .inr (1, [.ref q0_42_9, .ref q1_42_9, .ref q2_42_9, .ref q3_42_9, .ref q4_42_9, .int 0])), (q0_42_9, .inl (Y.2.1.2.2 .int, 60, .inl (fun _ => 0))), (q1_42_9, .inl (Y.2.1.2.2 .int, 60, .inl (fun _ => 0))), (q2_42_9, .inl (Y.2.1.2.2 .int, 60, .inl (fun _ => 0))), (q3_42_9, .inl (Y.2.1.2.2 .int, 60, .inl (fun _ => 0))), (q4_42_9, .inl (Y.2.1.2.2 .int, 60, .inl (fun _ => 0))), (q4_9, .inl (Y.2.1.2.2 .int, 60, .inl (fun _ => 0))), (q5_9, .inl (Y.2.1.2.2 .int, 12, .inl (fun _ => 0))), (q6_9, .inl (Y.2.1.2.2 .int, 9, .inl (fun _ => 0))), (q1, .inr (0, [.ref q0_67, .ref q1_67, .ref q2_67, .ref q3_67, .ref q4_67, .ref q5_67, .ref q6_67, .ref q7_67])), (q0_67, .inl (Y.2.1.2.2 .int, 60, .inl (fun _ => 0))), (q1_67, .inl (Y.2.1.2.2 .int, 60, .inl (fun _ => 0))), (q2_67, .inl (Y.2.1.2.2 .int, 60, .inl (fun _ => 0))), (q3_67, .inl (Y.2.1.2.2 .boolean, 60, .inl (fun _ => 0))), (q4_67, .inl (Y.2.1.2.2 .int, 60, .inl (fun _ => 0))), (q5_67, .inl (Y.2.1.2.2 .int, 60, .inl (fun _ => 0))), (q6_67, .inl (Y.2.1.2.2 .boolean, 60, .inl (fun _ => 0))), (q7_67, .inl (Y.2.1.2.2 .byte, 2400, .inl (fun _ => 0)))]) [0, 1, 2, 3, 4, 5, 6, 7, 8, 9, 10, 11, 12, 13, 14, 15, 16, 17, 18, 19, 20, 21, 22, 23, 24, 25, 26, 27, 28, 29, 30, 31, 32, 33, 34, 35, 36, 37, 38, 39, 40, 41, 42, 43, 44, 45, 46, 47, 48, 49, 50] si_X0 (Or.inl ml_X8_38) (ii_X0 (n0 := 0)) rfl rfl (by decide) (by decide) dX8_init_79 rfl rfl (Nat.le_of_ble_eq_true rfl) (by rw [hR]; decide) (by rw [hR]; decide) (by rw [hR]; decide) (fun w1 hF => ?_)
  obtain ⟨q0_79, q1_79, q2_79, q3_79, q4_79, q5_79, q6_79, q7_79, rfl⟩ := hF
  refine wc_putF C (p := 0) (j := 6) (hin rfl) rfl rfl in_X8 (by decide) tyX8 tyX8_ok nmX8 f_X8_45 rfl rfl (tyX8_ok 6 (by decide)) rfl rfl (by decide) dX8_init_82 ?_
  refine wc_aload_n C (i := 0) dX8_init_85 rfl rfl ?_
  refine wc_new C (ci := 7) (fs := [.null, .null, .null, .int 0, .null, .null, .int 0]) rfl in_X7 tyX7 tyX7_ok cl_X8_48 nw_X7 nz_X7 (by decide +kernel) (by rw [hR]; decide) (by rw [hR]; decide) dX8_init_86 (fun q3 => ?_)
  refine wc_dup C dX8_init_89 rfl ?_
  refine wc_callI C (p := 60) (wr := [(h, .inr (8, [.ref q0, .ref q0_9, .ref q1_9, .ref q2_9, .ref q3_9, .ref q1, .ref q2, .null, .null, .int 0])), (q0, .inr (4, [.ref q0_9, .ref q1_9, .ref q2_9, .ref q3_9, .ref q4_9, .ref q5_9, .ref q6_9, .int 72])), (q0_9, .inr (2, [.ref q0_9_9, .ref q1_9_9, .ref q2_9_9, .int 0, .ref q3_9_9, .ref q4_9_9, .ref q5_9_9, .ref q6_9_9, .ref q7_9_9, .int 0, .ref q8_9_9, .ref q9_9_9, .ref q10_9_9, .int 0])), (q0_9_9, .inl (Y.2.1.2.2 .int, 12, .inl (fun _ => 0))), (q1_9_9, .inl (Y.2.1.2.2 .boolean, 12, .inl (fun _ => 0))), (q3_9_9, .inl (Y.2.1.2.2 .int, 24, .inl (fun _ => 0))), (q4_9_9, .inl (Y.2.1.2.2 .int, 24, .inl (fun _ => 0))), (q5_9_9, .inl (Y.2.1.2.2 .int, 24, .inl (fun _ => 0))), (q6_9_9, .inl (Y.2.1.2.2 .int, 24, .inl (fun _ => 0))), (q7_9_9, .inl (Y.2.1.2.2 .int, 24, .inl (fun _ => 0))), (q8_9_9, .inl (Y.2.1.2.2 .int, 40, .inl (fun _ => 0))), (q9_9_9, .inl (Y.2.1.2.2 .int, 40, .inl (fun _ => 0))), (q10_9_9, .inl (Y.2.1.2.2 .int, 40, .inl (fun _ => 0))), (q2_9_9, .inl (Y.2.1.2.2 .int, 144, .inl f0_9_9)), (q1_9, .inr (6, [.ref q0_20_9, .ref q1_20_9, .ref q2_20_9, .ref q3_20_9, .int 0, .ref q4_20_9, .ref q5_20_9, .int 0, .ref q6_20_9, .ref q7_20_9, .ref q8_20_9, .ref q9_20_9, .int 0])), (q0_20_9, .inl (Y.2.1.2.2 .int, 60, .inl (fun _ => 0))), (q1_20_9, .inl (Y.2.1.2.2 .int, 60, .inl (fun _ => 0))), (q2_20_9, .inl (Y.2.1.2.2 .int, 60, .inl (fun _ => 0))), (q3_20_9, .inl (Y.2.1.2.2 .int, 60, .inl (fun _ => 0))), (q4_20_9, .inl (Y.2.1.2.2 .int, 40, .inl (fun _ => 0))), (q5_20_9, .inl (Y.2.1.2.2 .int, 40, .inl (fun _ => 0))), (q6_20_9, .inl (Y.2.1.2.2 .int, 80, .inl (fun _ => 0))), (q7_20_9, .inl (Y.2.1.2.2 .int, 80, .inl (fun _ => 0))), (q8_20_9, .inl (Y.2.1.2.2 .int, 80, .inl (fun _ => 0))), (q9_20_9, .inl (Y.2.1.2.2 .int, 80, .inl (fun _ => 0))), (q2_9, .inr (3, [.ref q0_31_9, .int 0, .ref q1_31_9, .ref q2_31_9, .ref q3_31_9, .ref q4_31_9, .int 0])), (q0_31_9, .inr (5, [.ref q0_9_31_9, .ref q1_9_31_9, .int 0, .int 0, .int 0, .int 0, .int 0])), (q0_9_31_9, .inl (Y.2.1.2.2 .byte, 60, .inl (fun _ => 0))), (q1_9_31_9, .inl (Y.2.1.2.2 .int, 60, .inl (fun _ => 0))), (q1_31_9, .inl (Y.2.1.2.2 .int, 30, .inl (fun _ => 0))), (q2_31_9, .inl (Y.2.1.2.2 .int, 30, .inl (fun _ => 0))), (q3_31_9, .inl (Y.2.1.2.2 .int, 30, .inl (fun _ => 0))), (q4_31_9, .inl (Y.2.1.2.2 .int, 1800, .inl (fun _ => 0))), (q3_9, .inr (1, [.ref q0_42_9, .ref q1_42_9, .ref q2_42_9, .ref q3_42_9, .ref q4_42_9, .int 0])), (q0_42_9, .inl (Y.2.1.2.2 .int, 60, .inl (fun _ => 0))), (q1_42_9, .inl (Y.2.1.2.2 .int, 60, .inl (fun _ => 0))), (q2_42_9, .inl (Y.2.1.2.2 .int, 60, .inl (fun _ => 0))), (q3_42_9, .inl (Y.2.1.2.2 .int, 60, .inl (fun _ => 0))), (q4_42_9, .inl (Y.2.1.2.2 .int, 60, .inl (fun _ => 0))), (q4_9, .inl (Y.2.1.2.2 .int, 60, .inl (fun _ => 0))), (q5_9, .inl (Y.2.1.2.2 .int, 12, .inl (fun _ => 0))), (q6_9, .inl (Y.2.1.2.2 .int, 9, .inl (fun _ => 0))), (q1, .inr (0, [.ref q0_67, .ref q1_67, .ref q2_67, .ref q3_67, .ref q4_67, .ref q5_67, .ref q6_67, .ref q7_67])), (q0_67, .inl (Y.2.1.2.2 .int, 60, .inl (fun _ => 0))), (q1_67, .inl (Y.2.1.2.2 .int, 60, .inl (fun _ => 0))), (q2_67, .inl (Y.2.1.2.2 .int, 60, .inl (fun _ => 0))), (q3_67, .inl (Y.2.1.2.2 .boolean, 60, .inl (fun _ => 0))), (q4_67, .inl (Y.2.1.2.2 .int, 60, .inl (fun _ => 0))), (q5_67, .inl (Y.2.1.2.2 .int, 60, .inl (fun _ => 0))), (q6_67, .inl (Y.2.1.2.2 .boolean, 60, .inl (fun _ => 0))), (q7_67, .inl (Y.2.1.2.2 .byte, 2400, .inl (fun _ => 0))), (q2, .inr (0, [.ref q0_79, .ref q1_79, .ref q2_79, .ref q3_79, .ref q4_79, .ref q5_79, .ref q6_79, .ref q7_79])), (q0_79, .inl (Y.2.1.2.2 .int, 60, .inl (fun _ => 0))), (q1_79, .inl (Y.2.1.2.2 .int, 60, .inl (fun _ => 0))), (q2_79, .inl (Y.2.1.2.2 .int, 60, .inl (fun _ => 0))), (q3_79, .inl (Y.2.1.2.2 .boolean, 60, .inl (fun _ => 0))), (q4_79, .inl (Y.2.1.2.2 .int, 60, .inl (fun _ => 0))), (q5_79, .inl (Y.2.1.2.2 .int, 60, .inl (fun _ => 0))), (q6_79, .inl (Y.2.1.2.2 .boolean, 60, .inl (fun _ => 0))), (q7_79, .inl (Y.2.1.2.2 .byte, 0, .inl (fun _ => 0)))]) [0, 1, 2, 3, 4, 5, 6, 7, 8, 9, 10, 11, 12, 13, 14, 15, 16, 17, 18, 19, 20, 21, 22, 23, 24, 25, 26, 27, 28, 29, 30, 31, 32, 33, 34, 35, 36, 37, 38, 39, 40, 41, 42, 43, 44, 45, 46, 47, 48, 49, 50, 51, 52, 53, 54, 55, 56, 57, 58, 59] si_X7 (Or.inr ⟨_, C.2.2.2.2.2.1.2.2.2.2 _ (by decide)⟩) ii_X7 rfl rfl (by decide) (by decide) dX8_init_90 rfl rfl (Nat.le_of_ble_eq_true rfl) (by rw [hR]; decide) (by rw [hR]; decide) (by rw [hR]; decide) (fun w1 hF => ?_)
  obtain ⟨q0_90, q1_90, q2_90, q3_90, q4_90, rfl⟩ := hF
  refine wc_putF C (p := 0) (j := 7) (hin rfl) rfl rfl in_X8 (by decide) tyX8 tyX8_ok nmX8 f_X8_51 rfl rfl (tyX8_ok 7 (by decide)) rfl rfl (by decide) dX8_init_93 ?_
  refine wc_aload_n C (i := 0) dX8_init_96 rfl rfl ?_
  refine wc_bipush C (v := 7) dX8_init_97 (by decide) ?_
  refine wc_newa C (t0 := 0) (N := 7) rfl rfl (fun _ _ h => h) ar_int (fun _ => rfl) (by decide) (by decide) (by decide) (by rw [hR]; decide) (by rw [hR]; decide) dX8_init_99 (fun q4 => ?_)
  refine wc_putF C (p := 0) (j := 8) (hin rfl) rfl rfl in_X8 (by decide) tyX8 tyX8_ok nmX8 f_X8_55 rfl rfl (tyX8_ok 8 (by decide)) rfl rfl (by decide) dX8_init_101 ?_
  exact hret _ _ _ dX8_init_104 ⟨q0, q0_9, q0_9_9, q1_9_9, q2_9_9, q3_9_9, q4_9_9, q5_9_9, q6_9_9, q7_9_9, q8_9_9, q9_9_9, q10_9_9, f0_9_9, q1_9, q0_20_9, q1_20_9, q2_20_9, q3_20_9, q4_20_9, q5_20_9, q6_20_9, q7_20_9, q8_20_9, q9_20_9, q2_9, q0_31_9, q0_9_31_9, q1_9_31_9, q1_31_9, q2_31_9, q3_31_9, q4_31_9, q3_9, q0_42_9, q1_42_9, q2_42_9, q3_42_9, q4_42_9, q4_9, q5_9, q6_9, q1, q0_67, q1_67, q2_67, q3_67, q4_67, q5_67, q6_67, q7_67, q2, q0_79, q1_79, q2_79, q3_79, q4_79, q5_79, q6_79, q7_79, q3, q0_90, q1_90, q2_90, q3_90, q4_90, q4, hf0_9_9, rfl⟩
def mk_X9 (E : fp_E) (h : Nat) (q0 : Nat) (q1 : Nat) (q2 : Nat) (q3 : Nat) (q4 : Nat) (q5 : Nat) (q6 : Nat) (q7 : Nat) (q8 : Nat) (q9 : Nat) (q10 : Nat) (q11 : Nat) (q12 : Nat) (q13 : Nat) (q14 : Nat) (q15 : Nat) (q16 : Nat) (q17 : Nat) (q18 : Nat) (q19 : Nat) (q20 : Nat) (q21 : Nat) (q22 : Nat) (q23 : Nat) (q24 : Nat) (q25 : Nat) (q26 : Nat) (q27 : Nat) (q28 : Nat) (q29 : Nat) (q30 : Nat) (q31 : Nat) (q32 : Nat) (q33 : Nat) (q34 : Nat) (q35 : Nat) (q36 : Nat) (q37 : Nat) (q38 : Nat) (q39 : Nat) (q40 : Nat) (q41 : Nat) (q42 : Nat) (q43 : Nat) (q44 : Nat) (q45 : Nat) (q46 : Nat) (q47 : Nat) (q48 : Nat) (q49 : Nat) (q50 : Nat) (q51 : Nat) (q52 : Nat) (q53 : Nat) (q54 : Nat) (q55 : Nat) : va_W := [(h, .inr (9, [.ref q0, .ref q1, .ref q2, .ref q3, .ref q4, .ref q5, .ref q6, .ref q7, .ref q8, .ref q9, .ref q10, .ref q11, .int 0, .int 0, .int 0, .int 0, .ref q12, .ref q13, .ref q14, .ref q15, .ref q16, .ref q17, .ref q18, .ref q19, .ref q20, .ref q21, .int 0, .int 0, .int 0, .ref q22, .ref q23, .ref q24, .ref q25, .ref q26, .ref q27, .ref q28, .ref q29, .ref q30, .ref q31, .ref q32, .ref q33, .ref q34, .int 0, .int 72, .ref q35, .ref q36, .ref q37, .ref q38, .ref q39, .ref q40, .ref q41, .int 0, .int 0, .int 0, .int 0, .ref q42, .ref q43, .int 0, .int 0, .int 0, .ref q44, .ref q45, .ref q46, .ref q47, .ref q48, .ref q49, .ref q50, .ref q51, .ref q52, .ref q53, .ref q54, .ref q55, .int 0, .int 0, .int 0, .int 0, .int 0])),
  (q0, .inl (E.2.2 .int, 7, .inl (fun _ => 0))),
  (q1, .inl (E.2.2 .int, 12, .inl (fun _ => 0))),
  (q2, .inl (E.2.2 .int, 24, .inl (fun _ => 0))),
  (q3, .inl (E.2.2 .int, 24, .inl (fun _ => 0))),
  (q4, .inl (E.2.2 .int, 24, .inl (fun _ => 0))),
  (q5, .inl (E.2.2 .int, 24, .inl (fun _ => 0))),
  (q6, .inl (E.2.2 .int, 24, .inl (fun _ => 0))),
  (q7, .inl (E.2.2 .int, 40, .inl (fun _ => 0))),
  (q8, .inl (E.2.2 .int, 40, .inl (fun _ => 0))),
  (q9, .inl (E.2.2 .int, 40, .inl (fun _ => 0))),
  (q10, .inl (E.2.2 .int, 144, .inl (fun _ => 0))),
  (q11, .inl (E.2.2 .boolean, 12, .inl (fun _ => 0))),
  (q12, .inl (E.2.2 .int, 60, .inl (fun _ => 0))),
  (q13, .inl (E.2.2 .int, 60, .inl (fun _ => 0))),
  (q14, .inl (E.2.2 .int, 60, .inl (fun _ => 0))),
  (q15, .inl (E.2.2 .int, 60, .inl (fun _ => 0))),
  (q16, .inl (E.2.2 .int, 40, .inl (fun _ => 0))),
  (q17, .inl (E.2.2 .int, 40, .inl (fun _ => 0))),
  (q18, .inl (E.2.2 .int, 80, .inl (fun _ => 0))),
  (q19, .inl (E.2.2 .int, 80, .inl (fun _ => 0))),
  (q20, .inl (E.2.2 .int, 80, .inl (fun _ => 0))),
  (q21, .inl (E.2.2 .int, 80, .inl (fun _ => 0))),
  (q22, .inl (E.2.2 .int, 60, .inl (fun _ => 0))),
  (q23, .inl (E.2.2 .int, 60, .inl (fun _ => 0))),
  (q24, .inl (E.2.2 .int, 60, .inl (fun _ => 0))),
  (q25, .inl (E.2.2 .int, 60, .inl (fun _ => 0))),
  (q26, .inl (E.2.2 .int, 60, .inl (fun _ => 0))),
  (q27, .inl (E.2.2 .int, 60, .inl (fun _ => 0))),
  (q28, .inl (E.2.2 .int, 60, .inl (fun _ => 0))),
  (q29, .inl (E.2.2 .int, 60, .inl (fun _ => 0))),
  (q30, .inl (E.2.2 .int, 60, .inl (fun _ => 0))),
  (q31, .inl (E.2.2 .int, 60, .inl (fun _ => 0))),
  (q32, .inl (E.2.2 .int, 2400, .inl (fun _ => 0))),
  (q33, .inl (E.2.2 .boolean, 60, .inl (fun _ => 0))),
  (q34, .inl (E.2.2 .boolean, 60, .inl (fun _ => 0))),
  (q35, .inl (E.2.2 .int, 60, .inl (fun _ => 0))),
  (q36, .inl (E.2.2 .int, 1800, .inl (fun _ => 0))),
  (q37, .inl (E.2.2 .int, 30, .inl (fun _ => 0))),
  (q38, .inl (E.2.2 .int, 30, .inl (fun _ => 0))),
  (q39, .inl (E.2.2 .int, 30, .inl (fun _ => 0))),
  (q40, .inl (E.2.2 .int, 8, .inl (fun _ => 0))),
  (q41, .inl (E.2.2 .int, 128, .inl (fun _ => 0))),
  (q42, .inl (E.2.2 .int, 60, .inl (fun _ => 0))),
  (q43, .inl (E.2.2 .int, 60, .inl (fun _ => 0))),
  (q44, .inl (E.2.2 .boolean, 60, .inl (fun _ => 0))),
  (q45, .inl (E.2.2 .int, 60, .inl (fun _ => 0))),
  (q46, .inl (E.2.2 .int, 60, .inl (fun _ => 0))),
  (q47, .inl (E.2.2 .int, 60, .inl (fun _ => 0))),
  (q48, .inl (E.2.2 .int, 60, .inl (fun _ => 0))),
  (q49, .inl (E.2.2 .int, 60, .inl (fun _ => 0))),
  (q50, .inl (E.2.2 .boolean, 60, .inl (fun _ => 0))),
  (q51, .inl (E.2.2 .boolean, 60, .inl (fun _ => 0))),
  (q52, .inl (E.2.2 .int, 7, .inl (fun _ => 0))),
  (q53, .inl (E.2.2 .int, 7, .inl (fun _ => 0))),
  (q54, .inl (E.2.2 .int, 7, .inl (fun _ => 0))),
  (q55, .inl (E.2.2 .int, 12, .inl (fun _ => 0)))]
set_option maxHeartbeats 4000000 in
set_option maxRecDepth 100000 in
theorem ii_X9 {l : Launch} {E : fp_E} {lo h : Nat} : fp_I l E lo yX9_init cX9_init 1 1 56 6894 [.ref h] [(h, .inr (9, [.null, .null, .null, .null, .null, .null, .null, .null, .null, .null, .null, .null, .int 0, .int 0, .int 0, .int 0, .null, .null, .null, .null, .null, .null, .null, .null, .null, .null, .int 0, .int 0, .int 0, .null, .null, .null, .null, .null, .null, .null, .null, .null, .null, .null, .null, .null, .int 0, .int 0, .null, .null, .null, .null, .null, .null, .null, .int 0, .int 0, .int 0, .int 0, .null, .null, .int 0, .int 0, .int 0, .null, .null, .null, .null, .null, .null, .null, .null, .null, .null, .null, .null, .int 0, .int 0, .int 0, .int 0, .int 0]))] (fun w1 => ∃ (q0 : Nat) (q1 : Nat) (q2 : Nat) (q3 : Nat) (q4 : Nat) (q5 : Nat) (q6 : Nat) (q7 : Nat) (q8 : Nat) (q9 : Nat) (q10 : Nat) (q11 : Nat) (q12 : Nat) (q13 : Nat) (q14 : Nat) (q15 : Nat) (q16 : Nat) (q17 : Nat) (q18 : Nat) (q19 : Nat) (q20 : Nat) (q21 : Nat) (q22 : Nat) (q23 : Nat) (q24 : Nat) (q25 : Nat) (q26 : Nat) (q27 : Nat) (q28 : Nat) (q29 : Nat) (q30 : Nat) (q31 : Nat) (q32 : Nat) (q33 : Nat) (q34 : Nat) (q35 : Nat) (q36 : Nat) (q37 : Nat) (q38 : Nat) (q39 : Nat) (q40 : Nat) (q41 : Nat) (q42 : Nat) (q43 : Nat) (q44 : Nat) (q45 : Nat) (q46 : Nat) (q47 : Nat) (q48 : Nat) (q49 : Nat) (q50 : Nat) (q51 : Nat) (q52 : Nat) (q53 : Nat) (q54 : Nat) (q55 : Nat), w1 = mk_X9 E h q0 q1 q2 q3 q4 q5 q6 q7 q8 q9 q10 q11 q12 q13 q14 q15 q16 q17 q18 q19 q20 q21 q22 q23 q24 q25 q26 q27 q28 q29 q30 q31 q32 q33 q34 q35 q36 q37 q38 q39 q40 q41 q42 q43 q44 q45 q46 q47 q48 q49 q50 q51 q52 q53 q54 q55) := by
  refine fp_enterI rfl [some (.ref h)] (Nat.le_of_ble_eq_true rfl) (fun q hq => hq) (fun Y hE hl hlo hn hR hin C hret => ?_)
  subst hE hl hlo
  refine wc_aload_n C (i := 0) dX9_init_0 rfl rfl ?_
  refine wc_obj C ob_X9_1 ob_i ob_c dX9_init_1 (by rw [hR]; decide) (by rw [hR]; decide) (Nat.le_of_ble_eq_true rfl) ?_
  refine wc_aload_n C (i := 0) dX9_init_4 rfl rfl ?_
  refine wc_bipush C (v := 7) dX9_init_5 (by decide) ?_
  refine wc_newa C (t0 := 0) (N := 7) rfl rfl (fun _ _ h => h) ar_int (fun _ => rfl) (by decide) (by decide) (by decide) (by rw [hR]; decide) (by rw [hR]; decide) dX9_init_7 (fun q0 => ?_)
  refine wc_putF C (p := 0) (j := 0) (hin rfl) rfl rfl in_X9 (by decide) tyX9 tyX9_ok nmX9 f_X9_7 rfl rfl (tyX9_ok 0 (by decide)) rfl rfl (by decide) dX9_init_9 ?_
  refine wc_aload_n C (i := 0) dX9_init_12 rfl rfl ?_
  refine wc_bipush C (v := 12) dX9_init_13 (by decide) ?_
  refine wc_newa C (t0 := 0) (N := 12) rfl rfl (fun _ _ h => h) ar_int (fun _ => rfl) (by decide) (by decide) (by decide) (by rw [hR]; decide) (by rw [hR]; decide) dX9_init_15 (fun q1 => ?_)
  refine wc_putF C (p := 0) (j := 1) (hin rfl) rfl rfl in_X9 (by decide) tyX9 tyX9_ok nmX9 f_X9_13 rfl rfl (tyX9_ok 1 (by decide)) rfl rfl (by decide) dX9_init_17 ?_
  refine wc_aload_n C (i := 0) dX9_init_20 rfl rfl ?_
  refine wc_bipush C (v := 24) dX9_init_21 (by decide) ?_
  refine wc_newa C (t0 := 0) (N := 24) rfl rfl (fun _ _ h => h) ar_int (fun _ => rfl) (by decide) (by decide) (by decide) (by rw [hR]; decide) (by rw [hR]; decide) dX9_init_23 (fun q2 => ?_)
  refine wc_putF C (p := 0) (j := 2) (hin rfl) rfl rfl in_X9 (by decide) tyX9 tyX9_ok nmX9 f_X9_16 rfl rfl (tyX9_ok 2 (by decide)) rfl rfl (by decide) dX9_init_25 ?_
  refine wc_aload_n C (i := 0) dX9_init_28 rfl rfl ?_
  refine wc_bipush C (v := 24) dX9_init_29 (by decide) ?_
  refine wc_newa C (t0 := 0) (N := 24) rfl rfl (fun _ _ h => h) ar_int (fun _ => rfl) (by decide) (by decide) (by decide) (by rw [hR]; decide) (by rw [hR]; decide) dX9_init_31 (fun q3 => ?_)
  refine wc_putF C (p := 0) (j := 3) (hin rfl) rfl rfl in_X9 (by decide) tyX9 tyX9_ok nmX9 f_X9_19 rfl rfl (tyX9_ok 3 (by decide)) rfl rfl (by decide) dX9_init_33 ?_
  refine wc_aload_n C (i := 0) dX9_init_36 rfl rfl ?_
  refine wc_bipush C (v := 24) dX9_init_37 (by decide) ?_
  refine wc_newa C (t0 := 0) (N := 24) rfl rfl (fun _ _ h => h) ar_int (fun _ => rfl) (by decide) (by decide) (by decide) (by rw [hR]; decide) (by rw [hR]; decide) dX9_init_39 (fun q4 => ?_)
  refine wc_putF C (p := 0) (j := 4) (hin rfl) rfl rfl in_X9 (by decide) tyX9 tyX9_ok nmX9 f_X9_22 rfl rfl (tyX9_ok 4 (by decide)) rfl rfl (by decide) dX9_init_41 ?_
  refine wc_aload_n C (i := 0) dX9_init_44 rfl rfl ?_
  refine wc_bipush C (v := 24) dX9_init_45 (by decide) ?_
  refine wc_newa C (t0 := 0) (N := 24) rfl rfl (fun _ _ h => h) ar_int (fun _ => rfl) (by decide) (by decide) (by decide) (by rw [hR]; decide) (by rw [hR]; decide) dX9_init_47 (fun q5 => ?_)
  refine wc_putF C (p := 0) (j := 5) (hin rfl) rfl rfl in_X9 (by decide) tyX9 tyX9_ok nmX9 f_X9_25 rfl rfl (tyX9_ok 5 (by decide)) rfl rfl (by decide) dX9_init_49 ?_
  refine wc_aload_n C (i := 0) dX9_init_52 rfl rfl ?_
  refine wc_bipush C (v := 24) dX9_init_53 (by decide) ?_
  refine wc_newa C (t0 := 0) (N := 24) rfl rfl (fun _ _ h => h) ar_int (fun _ => rfl) (by decide) (by decide) (by decide) (by rw [hR]; decide) (by rw [hR]; decide) dX9_init_55 (fun q6 => ?_)
  refine wc_putF C (p := 0) (j := 6) (hin rfl) rfl rfl in_X9 (by decide) tyX9 tyX9_ok nmX9 f_X9_28 rfl rfl (tyX9_ok 6 (by decide)) rfl rfl (by decide) dX9_init_57 ?_
  refine wc_aload_n C (i := 0) dX9_init_60 rfl rfl ?_
  refine wc_bipush C (v := 40) dX9_init_61 (by decide) ?_
  refine wc_newa C (t0 := 0) (N := 40) rfl rfl (fun _ _ h => h) ar_int (fun _ => rfl) (by decide) (by decide) (by decide) (by rw [hR]; decide) (by rw [hR]; decide) dX9_init_63 (fun q7 => ?_)
  refine wc_putF C (p := 0) (j := 7) (hin rfl) rfl rfl in_X9 (by decide) tyX9 tyX9_ok nmX9 f_X9_31 rfl rfl (tyX9_ok 7 (by decide)) rfl rfl (by decide) dX9_init_65 ?_
  refine wc_aload_n C (i := 0) dX9_init_68 rfl rfl ?_
  refine wc_bipush C (v := 40) dX9_init_69 (by decide) ?_
  refine wc_newa C (t0 := 0) (N := 40) rfl rfl (fun _ _ h => h) ar_int (fun _ => rfl) (by decide) (by decide) (by decide) (by rw [hR]; decide) (by rw [hR]; decide) dX9_init_71 (fun q8 => ?_)
  refine wc_putF C (p := 0) (j := 8) (hin rfl) rfl rfl in_X9 (by decide) tyX9 tyX9_ok nmX9 f_X9_34 rfl rfl (tyX9_ok 8 (by decide)) rfl rfl (by decide) dX9_init_73 ?_
  refine wc_aload_n C (i := 0) dX9_init_76 rfl rfl ?_
  refine wc_bipush C (v := 40) dX9_init_77 (by decide) ?_
  refine wc_newa C (t0 := 0) (N := 40) rfl rfl (fun _ _ h => h) ar_int (fun _ => rfl) (by decide) (by decide) (by decide) (by rw [hR]; decide) (by rw [hR]; decide) dX9_init_79 (fun q9 => ?_)
  refine wc_putF C (p := 0) (j := 9) (hin rfl) rfl rfl in_X9 (by decide) tyX9 tyX9_ok nmX9 f_X9_37 rfl rfl (tyX9_ok 9 (by decide)) rfl rfl (by decide) dX9_init_81 ?_
  refine wc_aload_n C (i := 0) dX9_init_84 rfl rfl ?_
  refine wc_sipush C (v := 144) dX9_init_85 (by decide) ?_
  refine wc_newa C (t0 := 0) (N := 144) rfl rfl (fun _ _ h => h) ar_int (fun _ => rfl) (by decide) (by decide) (by decide) (by rw [hR]; decide) (by rw [hR]; decide) dX9_init_88 (fun q10 => ?_)
  refine wc_putF C (p := 0) (j := 10) (hin rfl) rfl rfl in_X9 (by decide) tyX9 tyX9_ok nmX9 f_X9_40 rfl rfl (tyX9_ok 10 (by decide)) rfl rfl (by decide) dX9_init_90 ?_
  refine wc_aload_n C (i := 0) dX9_init_93 rfl rfl ?_
  refine wc_bipush C (v := 12) dX9_init_94 (by decide) ?_
  refine wc_newa C (t0 := 1) (N := 12) rfl rfl (fun _ _ h => h) ar_boolean (fun _ => rfl) (by decide) (by decide) (by decide) (by rw [hR]; decide) (by rw [hR]; decide) dX9_init_96 (fun q11 => ?_)
  refine wc_putF C (p := 0) (j := 11) (hin rfl) rfl rfl in_X9 (by decide) tyX9 tyX9_ok nmX9 f_X9_43 rfl rfl (tyX9_ok 11 (by decide)) rfl rfl (by decide) dX9_init_98 ?_
  refine wc_aload_n C (i := 0) dX9_init_101 rfl rfl ?_
  refine wc_bipush C (v := 60) dX9_init_102 (by decide) ?_
  refine wc_newa C (t0 := 0) (N := 60) rfl rfl (fun _ _ h => h) ar_int (fun _ => rfl) (by decide) (by decide) (by decide) (by rw [hR]; decide) (by rw [hR]; decide) dX9_init_104 (fun q12 => ?_)
  refine wc_putF C (p := 0) (j := 16) (hin rfl) rfl rfl in_X9 (by decide) tyX9 tyX9_ok nmX9 f_X9_47 rfl rfl (tyX9_ok 16 (by decide)) rfl rfl (by decide) dX9_init_106 ?_
  refine wc_aload_n C (i := 0) dX9_init_109 rfl rfl ?_
  refine wc_bipush C (v := 60) dX9_init_110 (by decide) ?_
  refine wc_newa C (t0 := 0) (N := 60) rfl rfl (fun _ _ h => h) ar_int (fun _ => rfl) (by decide) (by decide) (by decide) (by rw [hR]; decide) (by rw [hR]; decide) dX9_init_112 (fun q13 => ?_)
  refine wc_putF C (p := 0) (j := 17) (hin rfl) rfl rfl in_X9 (by decide) tyX9 tyX9_ok nmX9 f_X9_50 rfl rfl (tyX9_ok 17 (by decide)) rfl rfl (by decide) dX9_init_114 ?_
  refine wc_aload_n C (i := 0) dX9_init_117 rfl rfl ?_
  refine wc_bipush C (v := 60) dX9_init_118 (by decide) ?_
  refine wc_newa C (t0 := 0) (N := 60) rfl rfl (fun _ _ h => h) ar_int (fun _ => rfl) (by decide) (by decide) (by decide) (by rw [hR]; decide) (by rw [hR]; decide) dX9_init_120 (fun q14 => ?_)
  refine wc_putF C (p := 0) (j := 18) (hin rfl) rfl rfl in_X9 (by decide) tyX9 tyX9_ok nmX9 f_X9_53 rfl rfl (tyX9_ok 18 (by decide)) rfl rfl (by decide) dX9_init_122 ?_
  refine wc_aload_n C (i := 0) dX9_init_125 rfl rfl ?_
  refine wc_bipush C (v := 60) dX9_init_126 (by decide) ?_
  refine wc_newa C (t0 := 0) (N := 60) rfl rfl (fun _ _ h => h) ar_int (fun _ => rfl) (by decide) (by decide) (by decide) (by rw [hR]; decide) (by rw [hR]; decide) dX9_init_128 (fun q15 => ?_)
  refine wc_putF C (p := 0) (j := 19) (hin rfl) rfl rfl in_X9 (by decide) tyX9 tyX9_ok nmX9 f_X9_56 rfl rfl (tyX9_ok 19 (by decide)) rfl rfl (by decide) dX9_init_130 ?_
  refine wc_aload_n C (i := 0) dX9_init_133 rfl rfl ?_
  refine wc_bipush C (v := 40) dX9_init_134 (by decide) ?_
  refine wc_newa C (t0 := 0) (N := 40) rfl rfl (fun _ _ h => h) ar_int (fun _ => rfl) (by decide) (by decide) (by decide) (by rw [hR]; decide) (by rw [hR]; decide) dX9_init_136 (fun q16 => ?_)
  refine wc_putF C (p := 0) (j := 20) (hin rfl) rfl rfl in_X9 (by decide) tyX9 tyX9_ok nmX9 f_X9_59 rfl rfl (tyX9_ok 20 (by decide)) rfl rfl (by decide) dX9_init_138 ?_
  refine wc_aload_n C (i := 0) dX9_init_141 rfl rfl ?_
  refine wc_bipush C (v := 40) dX9_init_142 (by decide) ?_
  refine wc_newa C (t0 := 0) (N := 40) rfl rfl (fun _ _ h => h) ar_int (fun _ => rfl) (by decide) (by decide) (by decide) (by rw [hR]; decide) (by rw [hR]; decide) dX9_init_144 (fun q17 => ?_)
  refine wc_putF C (p := 0) (j := 21) (hin rfl) rfl rfl in_X9 (by decide) tyX9 tyX9_ok nmX9 f_X9_62 rfl rfl (tyX9_ok 21 (by decide)) rfl rfl (by decide) dX9_init_146 ?_
  refine wc_aload_n C (i := 0) dX9_init_149 rfl rfl ?_
  refine wc_bipush C (v := 80) dX9_init_150 (by decide) ?_
  refine wc_newa C (t0 := 0) (N := 80) rfl rfl (fun _ _ h => h) ar_int (fun _ => rfl) (by decide) (by decide) (by decide) (by rw [hR]; decide) (by rw [hR]; decide) dX9_init_152 (fun q18 => ?_)
  refine wc_putF C (p := 0) (j := 22) (hin rfl) rfl rfl in_X9 (by decide) tyX9 tyX9_ok nmX9 f_X9_65 rfl rfl (tyX9_ok 22 (by decide)) rfl rfl (by decide) dX9_init_154 ?_
  refine wc_aload_n C (i := 0) dX9_init_157 rfl rfl ?_
  refine wc_bipush C (v := 80) dX9_init_158 (by decide) ?_
  refine wc_newa C (t0 := 0) (N := 80) rfl rfl (fun _ _ h => h) ar_int (fun _ => rfl) (by decide) (by decide) (by decide) (by rw [hR]; decide) (by rw [hR]; decide) dX9_init_160 (fun q19 => ?_)
  refine wc_putF C (p := 0) (j := 23) (hin rfl) rfl rfl in_X9 (by decide) tyX9 tyX9_ok nmX9 f_X9_68 rfl rfl (tyX9_ok 23 (by decide)) rfl rfl (by decide) dX9_init_162 ?_
  refine wc_aload_n C (i := 0) dX9_init_165 rfl rfl ?_
  refine wc_bipush C (v := 80) dX9_init_166 (by decide) ?_
  refine wc_newa C (t0 := 0) (N := 80) rfl rfl (fun _ _ h => h) ar_int (fun _ => rfl) (by decide) (by decide) (by decide) (by rw [hR]; decide) (by rw [hR]; decide) dX9_init_168 (fun q20 => ?_)
  refine wc_putF C (p := 0) (j := 24) (hin rfl) rfl rfl in_X9 (by decide) tyX9 tyX9_ok nmX9 f_X9_71 rfl rfl (tyX9_ok 24 (by decide)) rfl rfl (by decide) dX9_init_170 ?_
  refine wc_aload_n C (i := 0) dX9_init_173 rfl rfl ?_
  refine wc_bipush C (v := 80) dX9_init_174 (by decide) ?_
  refine wc_newa C (t0 := 0) (N := 80) rfl rfl (fun _ _ h => h) ar_int (fun _ => rfl) (by decide) (by decide) (by decide) (by rw [hR]; decide) (by rw [hR]; decide) dX9_init_176 (fun q21 => ?_)
  refine wc_putF C (p := 0) (j := 25) (hin rfl) rfl rfl in_X9 (by decide) tyX9 tyX9_ok nmX9 f_X9_74 rfl rfl (tyX9_ok 25 (by decide)) rfl rfl (by decide) dX9_init_178 ?_
  refine wc_aload_n C (i := 0) dX9_init_181 rfl rfl ?_
  refine wc_bipush C (v := 60) dX9_init_182 (by decide) ?_
  refine wc_newa C (t0 := 0) (N := 60) rfl rfl (fun _ _ h => h) ar_int (fun _ => rfl) (by decide) (by decide) (by decide) (by rw [hR]; decide) (by rw [hR]; decide) dX9_init_184 (fun q22 => ?_)
  refine wc_putF C (p := 0) (j := 29) (hin rfl) rfl rfl in_X9 (by decide) tyX9 tyX9_ok nmX9 f_X9_77 rfl rfl (tyX9_ok 29 (by decide)) rfl rfl (by decide) dX9_init_186 ?_
  refine wc_aload_n C (i := 0) dX9_init_189 rfl rfl ?_
  refine wc_bipush C (v := 60) dX9_init_190 (by decide) ?_
  refine wc_newa C (t0 := 0) (N := 60) rfl rfl (fun _ _ h => h) ar_int (fun _ => rfl) (by decide) (by decide) (by decide) (by rw [hR]; decide) (by rw [hR]; decide) dX9_init_192 (fun q23 => ?_)
  refine wc_putF C (p := 0) (j := 30) (hin rfl) rfl rfl in_X9 (by decide) tyX9 tyX9_ok nmX9 f_X9_80 rfl rfl (tyX9_ok 30 (by decide)) rfl rfl (by decide) dX9_init_194 ?_
  refine wc_aload_n C (i := 0) dX9_init_197 rfl rfl ?_
  refine wc_bipush C (v := 60) dX9_init_198 (by decide) ?_
  refine wc_newa C (t0 := 0) (N := 60) rfl rfl (fun _ _ h => h) ar_int (fun _ => rfl) (by decide) (by decide) (by decide) (by rw [hR]; decide) (by rw [hR]; decide) dX9_init_200 (fun q24 => ?_)
  refine wc_putF C (p := 0) (j := 31) (hin rfl) rfl rfl in_X9 (by decide) tyX9 tyX9_ok nmX9 f_X9_83 rfl rfl (tyX9_ok 31 (by decide)) rfl rfl (by decide) dX9_init_202 ?_
  refine wc_aload_n C (i := 0) dX9_init_205 rfl rfl ?_
  refine wc_bipush C (v := 60) dX9_init_206 (by decide) ?_
  refine wc_newa C (t0 := 0) (N := 60) rfl rfl (fun _ _ h => h) ar_int (fun _ => rfl) (by decide) (by decide) (by decide) (by rw [hR]; decide) (by rw [hR]; decide) dX9_init_208 (fun q25 => ?_)
  refine wc_putF C (p := 0) (j := 32) (hin rfl) rfl rfl in_X9 (by decide) tyX9 tyX9_ok nmX9 f_X9_86 rfl rfl (tyX9_ok 32 (by decide)) rfl rfl (by decide) dX9_init_210 ?_
  refine wc_aload_n C (i := 0) dX9_init_213 rfl rfl ?_
  refine wc_bipush C (v := 60) dX9_init_214 (by decide) ?_
  refine wc_newa C (t0 := 0) (N := 60) rfl rfl (fun _ _ h => h) ar_int (fun _ => rfl) (by decide) (by decide) (by decide) (by rw [hR]; decide) (by rw [hR]; decide) dX9_init_216 (fun q26 => ?_)
  refine wc_putF C (p := 0) (j := 33) (hin rfl) rfl rfl in_X9 (by decide) tyX9 tyX9_ok nmX9 f_X9_89 rfl rfl (tyX9_ok 33 (by decide)) rfl rfl (by decide) dX9_init_218 ?_
  refine wc_aload_n C (i := 0) dX9_init_221 rfl rfl ?_
  refine wc_bipush C (v := 60) dX9_init_222 (by decide) ?_
  refine wc_newa C (t0 := 0) (N := 60) rfl rfl (fun _ _ h => h) ar_int (fun _ => rfl) (by decide) (by decide) (by decide) (by rw [hR]; decide) (by rw [hR]; decide) dX9_init_224 (fun q27 => ?_)
  refine wc_putF C (p := 0) (j := 34) (hin rfl) rfl rfl in_X9 (by decide) tyX9 tyX9_ok nmX9 f_X9_92 rfl rfl (tyX9_ok 34 (by decide)) rfl rfl (by decide) dX9_init_226 ?_
  refine wc_aload_n C (i := 0) dX9_init_229 rfl rfl ?_
  refine wc_bipush C (v := 60) dX9_init_230 (by decide) ?_
  refine wc_newa C (t0 := 0) (N := 60) rfl rfl (fun _ _ h => h) ar_int (fun _ => rfl) (by decide) (by decide) (by decide) (by rw [hR]; decide) (by rw [hR]; decide) dX9_init_232 (fun q28 => ?_)
  refine wc_putF C (p := 0) (j := 35) (hin rfl) rfl rfl in_X9 (by decide) tyX9 tyX9_ok nmX9 f_X9_95 rfl rfl (tyX9_ok 35 (by decide)) rfl rfl (by decide) dX9_init_234 ?_
  refine wc_aload_n C (i := 0) dX9_init_237 rfl rfl ?_
  refine wc_bipush C (v := 60) dX9_init_238 (by decide) ?_
  refine wc_newa C (t0 := 0) (N := 60) rfl rfl (fun _ _ h => h) ar_int (fun _ => rfl) (by decide) (by decide) (by decide) (by rw [hR]; decide) (by rw [hR]; decide) dX9_init_240 (fun q29 => ?_)
  refine wc_putF C (p := 0) (j := 36) (hin rfl) rfl rfl in_X9 (by decide) tyX9 tyX9_ok nmX9 f_X9_98 rfl rfl (tyX9_ok 36 (by decide)) rfl rfl (by decide) dX9_init_242 ?_
  refine wc_aload_n C (i := 0) dX9_init_245 rfl rfl ?_
  refine wc_bipush C (v := 60) dX9_init_246 (by decide) ?_
  refine wc_newa C (t0 := 0) (N := 60) rfl rfl (fun _ _ h => h) ar_int (fun _ => rfl) (by decide) (by decide) (by decide) (by rw [hR]; decide) (by rw [hR]; decide) dX9_init_248 (fun q30 => ?_)
  refine wc_putF C (p := 0) (j := 37) (hin rfl) rfl rfl in_X9 (by decide) tyX9 tyX9_ok nmX9 f_X9_101 rfl rfl (tyX9_ok 37 (by decide)) rfl rfl (by decide) dX9_init_250 ?_
  refine wc_aload_n C (i := 0) dX9_init_253 rfl rfl ?_
  refine wc_bipush C (v := 60) dX9_init_254 (by decide) ?_
  refine wc_newa C (t0 := 0) (N := 60) rfl rfl (fun _ _ h => h) ar_int (fun _ => rfl) (by decide) (by decide) (by decide) (by rw [hR]; decide) (by rw [hR]; decide) dX9_init_256 (fun q31 => ?_)
  refine wc_putF C (p := 0) (j := 38) (hin rfl) rfl rfl in_X9 (by decide) tyX9 tyX9_ok nmX9 f_X9_104 rfl rfl (tyX9_ok 38 (by decide)) rfl rfl (by decide) dX9_init_258 ?_
  refine wc_aload_n C (i := 0) dX9_init_261 rfl rfl ?_
  refine wc_sipush C (v := 2400) dX9_init_262 (by decide) ?_
  refine wc_newa C (t0 := 0) (N := 2400) rfl rfl (fun _ _ h => h) ar_int (fun _ => rfl) (by decide) (by decide) (by decide) (by rw [hR]; decide) (by rw [hR]; decide) dX9_init_265 (fun q32 => ?_)
  refine wc_putF C (p := 0) (j := 39) (hin rfl) rfl rfl in_X9 (by decide) tyX9 tyX9_ok nmX9 f_X9_107 rfl rfl (tyX9_ok 39 (by decide)) rfl rfl (by decide) dX9_init_267 ?_
  refine wc_aload_n C (i := 0) dX9_init_270 rfl rfl ?_
  refine wc_bipush C (v := 60) dX9_init_271 (by decide) ?_
  refine wc_newa C (t0 := 1) (N := 60) rfl rfl (fun _ _ h => h) ar_boolean (fun _ => rfl) (by decide) (by decide) (by decide) (by rw [hR]; decide) (by rw [hR]; decide) dX9_init_273 (fun q33 => ?_)
  refine wc_putF C (p := 0) (j := 40) (hin rfl) rfl rfl in_X9 (by decide) tyX9 tyX9_ok nmX9 f_X9_110 rfl rfl (tyX9_ok 40 (by decide)) rfl rfl (by decide) dX9_init_275 ?_
  refine wc_aload_n C (i := 0) dX9_init_278 rfl rfl ?_
  refine wc_bipush C (v := 60) dX9_init_279 (by decide) ?_
  refine wc_newa C (t0 := 1) (N := 60) rfl rfl (fun _ _ h => h) ar_boolean (fun _ => rfl) (by decide) (by decide) (by decide) (by rw [hR]; decide) (by rw [hR]; decide) dX9_init_281 (fun q34 => ?_)
  refine wc_putF C (p := 0) (j := 41) (hin rfl) rfl rfl in_X9 (by decide) tyX9 tyX9_ok nmX9 f_X9_113 rfl rfl (tyX9_ok 41 (by decide)) rfl rfl (by decide) dX9_init_283 ?_
  refine wc_aload_n C (i := 0) dX9_init_286 rfl rfl ?_
  refine wc_bipush C (v := 72) dX9_init_287 (by decide) ?_
  refine wc_putI C (p := 0) (j := 43) rfl rfl in_X9 (by decide) tyX9 tyX9_ok nmX9 f_X9_116 rfl rfl (by decide) dX9_init_289 ?_
  refine wc_aload_n C (i := 0) dX9_init_292 rfl rfl ?_
  refine wc_bipush C (v := 60) dX9_init_293 (by decide) ?_
  refine wc_newa C (t0 := 0) (N := 60) rfl rfl (fun _ _ h => h) ar_int (fun _ => rfl) (by decide) (by decide) (by decide) (by rw [hR]; decide) (by rw [hR]; decide) dX9_init_295 (fun q35 => ?_)
  refine wc_putF C (p := 0) (j := 44) (hin rfl) rfl rfl in_X9 (by decide) tyX9 tyX9_ok nmX9 f_X9_120 rfl rfl (tyX9_ok 44 (by decide)) rfl rfl (by decide) dX9_init_297 ?_
  refine wc_aload_n C (i := 0) dX9_init_300 rfl rfl ?_
  refine wc_sipush C (v := 1800) dX9_init_301 (by decide) ?_
  refine wc_newa C (t0 := 0) (N := 1800) rfl rfl (fun _ _ h => h) ar_int (fun _ => rfl) (by decide) (by decide) (by decide) (by rw [hR]; decide) (by rw [hR]; decide) dX9_init_304 (fun q36 => ?_)
  refine wc_putF C (p := 0) (j := 45) (hin rfl) rfl rfl in_X9 (by decide) tyX9 tyX9_ok nmX9 f_X9_123 rfl rfl (tyX9_ok 45 (by decide)) rfl rfl (by decide) dX9_init_306 ?_
  refine wc_aload_n C (i := 0) dX9_init_309 rfl rfl ?_
  refine wc_bipush C (v := 30) dX9_init_310 (by decide) ?_
  refine wc_newa C (t0 := 0) (N := 30) rfl rfl (fun _ _ h => h) ar_int (fun _ => rfl) (by decide) (by decide) (by decide) (by rw [hR]; decide) (by rw [hR]; decide) dX9_init_312 (fun q37 => ?_)
  refine wc_putF C (p := 0) (j := 46) (hin rfl) rfl rfl in_X9 (by decide) tyX9 tyX9_ok nmX9 f_X9_126 rfl rfl (tyX9_ok 46 (by decide)) rfl rfl (by decide) dX9_init_314 ?_
  refine wc_aload_n C (i := 0) dX9_init_317 rfl rfl ?_
  refine wc_bipush C (v := 30) dX9_init_318 (by decide) ?_
  refine wc_newa C (t0 := 0) (N := 30) rfl rfl (fun _ _ h => h) ar_int (fun _ => rfl) (by decide) (by decide) (by decide) (by rw [hR]; decide) (by rw [hR]; decide) dX9_init_320 (fun q38 => ?_)
  refine wc_putF C (p := 0) (j := 47) (hin rfl) rfl rfl in_X9 (by decide) tyX9 tyX9_ok nmX9 f_X9_129 rfl rfl (tyX9_ok 47 (by decide)) rfl rfl (by decide) dX9_init_322 ?_
  refine wc_aload_n C (i := 0) dX9_init_325 rfl rfl ?_
  refine wc_bipush C (v := 30) dX9_init_326 (by decide) ?_
  refine wc_newa C (t0 := 0) (N := 30) rfl rfl (fun _ _ h => h) ar_int (fun _ => rfl) (by decide) (by decide) (by decide) (by rw [hR]; decide) (by rw [hR]; decide) dX9_init_328 (fun q39 => ?_)
  refine wc_putF C (p := 0) (j := 48) (hin rfl) rfl rfl in_X9 (by decide) tyX9 tyX9_ok nmX9 f_X9_132 rfl rfl (tyX9_ok 48 (by decide)) rfl rfl (by decide) dX9_init_330 ?_
  refine wc_aload_n C (i := 0) dX9_init_333 rfl rfl ?_
  refine wc_bipush C (v := 8) dX9_init_334 (by decide) ?_
  refine wc_newa C (t0 := 0) (N := 8) rfl rfl (fun _ _ h => h) ar_int (fun _ => rfl) (by decide) (by decide) (by decide) (by rw [hR]; decide) (by rw [hR]; decide) dX9_init_336 (fun q40 => ?_)
  refine wc_putF C (p := 0) (j := 49) (hin rfl) rfl rfl in_X9 (by decide) tyX9 tyX9_ok nmX9 f_X9_135 rfl rfl (tyX9_ok 49 (by decide)) rfl rfl (by decide) dX9_init_338 ?_
  refine wc_aload_n C (i := 0) dX9_init_341 rfl rfl ?_
  refine wc_sipush C (v := 128) dX9_init_342 (by decide) ?_
  refine wc_newa C (t0 := 0) (N := 128) rfl rfl (fun _ _ h => h) ar_int (fun _ => rfl) (by decide) (by decide) (by decide) (by rw [hR]; decide) (by rw [hR]; decide) dX9_init_345 (fun q41 => ?_)
  refine wc_putF C (p := 0) (j := 50) (hin rfl) rfl rfl in_X9 (by decide) tyX9 tyX9_ok nmX9 f_X9_138 rfl rfl (tyX9_ok 50 (by decide)) rfl rfl (by decide) dX9_init_347 ?_
  refine wc_aload_n C (i := 0) dX9_init_350 rfl rfl ?_
  refine wc_bipush C (v := 60) dX9_init_351 (by decide) ?_
  refine wc_newa C (t0 := 0) (N := 60) rfl rfl (fun _ _ h => h) ar_int (fun _ => rfl) (by decide) (by decide) (by decide) (by rw [hR]; decide) (by rw [hR]; decide) dX9_init_353 (fun q42 => ?_)
  refine wc_putF C (p := 0) (j := 55) (hin rfl) rfl rfl in_X9 (by decide) tyX9 tyX9_ok nmX9 f_X9_141 rfl rfl (tyX9_ok 55 (by decide)) rfl rfl (by decide) dX9_init_355 ?_
  refine wc_aload_n C (i := 0) dX9_init_358 rfl rfl ?_
  refine wc_bipush C (v := 60) dX9_init_359 (by decide) ?_
  refine wc_newa C (t0 := 0) (N := 60) rfl rfl (fun _ _ h => h) ar_int (fun _ => rfl) (by decide) (by decide) (by decide) (by rw [hR]; decide) (by rw [hR]; decide) dX9_init_361 (fun q43 => ?_)
  refine wc_putF C (p := 0) (j := 56) (hin rfl) rfl rfl in_X9 (by decide) tyX9 tyX9_ok nmX9 f_X9_144 rfl rfl (tyX9_ok 56 (by decide)) rfl rfl (by decide) dX9_init_363 ?_
  refine wc_aload_n C (i := 0) dX9_init_366 rfl rfl ?_
  refine wc_bipush C (v := 60) dX9_init_367 (by decide) ?_
  refine wc_newa C (t0 := 1) (N := 60) rfl rfl (fun _ _ h => h) ar_boolean (fun _ => rfl) (by decide) (by decide) (by decide) (by rw [hR]; decide) (by rw [hR]; decide) dX9_init_369 (fun q44 => ?_)
  refine wc_putF C (p := 0) (j := 60) (hin rfl) rfl rfl in_X9 (by decide) tyX9 tyX9_ok nmX9 f_X9_147 rfl rfl (tyX9_ok 60 (by decide)) rfl rfl (by decide) dX9_init_371 ?_
  refine wc_aload_n C (i := 0) dX9_init_374 rfl rfl ?_
  refine wc_bipush C (v := 60) dX9_init_375 (by decide) ?_
  refine wc_newa C (t0 := 0) (N := 60) rfl rfl (fun _ _ h => h) ar_int (fun _ => rfl) (by decide) (by decide) (by decide) (by rw [hR]; decide) (by rw [hR]; decide) dX9_init_377 (fun q45 => ?_)
  refine wc_putF C (p := 0) (j := 61) (hin rfl) rfl rfl in_X9 (by decide) tyX9 tyX9_ok nmX9 f_X9_150 rfl rfl (tyX9_ok 61 (by decide)) rfl rfl (by decide) dX9_init_379 ?_
  refine wc_aload_n C (i := 0) dX9_init_382 rfl rfl ?_
  refine wc_bipush C (v := 60) dX9_init_383 (by decide) ?_
  refine wc_newa C (t0 := 0) (N := 60) rfl rfl (fun _ _ h => h) ar_int (fun _ => rfl) (by decide) (by decide) (by decide) (by rw [hR]; decide) (by rw [hR]; decide) dX9_init_385 (fun q46 => ?_)
  refine wc_putF C (p := 0) (j := 62) (hin rfl) rfl rfl in_X9 (by decide) tyX9 tyX9_ok nmX9 f_X9_153 rfl rfl (tyX9_ok 62 (by decide)) rfl rfl (by decide) dX9_init_387 ?_
  refine wc_aload_n C (i := 0) dX9_init_390 rfl rfl ?_
  refine wc_bipush C (v := 60) dX9_init_391 (by decide) ?_
  refine wc_newa C (t0 := 0) (N := 60) rfl rfl (fun _ _ h => h) ar_int (fun _ => rfl) (by decide) (by decide) (by decide) (by rw [hR]; decide) (by rw [hR]; decide) dX9_init_393 (fun q47 => ?_)
  refine wc_putF C (p := 0) (j := 63) (hin rfl) rfl rfl in_X9 (by decide) tyX9 tyX9_ok nmX9 f_X9_156 rfl rfl (tyX9_ok 63 (by decide)) rfl rfl (by decide) dX9_init_395 ?_
  refine wc_aload_n C (i := 0) dX9_init_398 rfl rfl ?_
  refine wc_bipush C (v := 60) dX9_init_399 (by decide) ?_
  refine wc_newa C (t0 := 0) (N := 60) rfl rfl (fun _ _ h => h) ar_int (fun _ => rfl) (by decide) (by decide) (by decide) (by rw [hR]; decide) (by rw [hR]; decide) dX9_init_401 (fun q48 => ?_)
  refine wc_putF C (p := 0) (j := 64) (hin rfl) rfl rfl in_X9 (by decide) tyX9 tyX9_ok nmX9 f_X9_159 rfl rfl (tyX9_ok 64 (by decide)) rfl rfl (by decide) dX9_init_403 ?_
  refine wc_aload_n C (i := 0) dX9_init_406 rfl rfl ?_
  refine wc_bipush C (v := 60) dX9_init_407 (by decide) ?_
  refine wc_newa C (t0 := 0) (N := 60) rfl rfl (fun _ _ h => h) ar_int (fun _ => rfl) (by decide) (by decide) (by decide) (by rw [hR]; decide) (by rw [hR]; decide) dX9_init_409 (fun q49 => ?_)
  refine wc_putF C (p := 0) (j := 65) (hin rfl) rfl rfl in_X9 (by decide) tyX9 tyX9_ok nmX9 f_X9_162 rfl rfl (tyX9_ok 65 (by decide)) rfl rfl (by decide) dX9_init_411 ?_
  refine wc_aload_n C (i := 0) dX9_init_414 rfl rfl ?_
  refine wc_bipush C (v := 60) dX9_init_415 (by decide) ?_
  refine wc_newa C (t0 := 1) (N := 60) rfl rfl (fun _ _ h => h) ar_boolean (fun _ => rfl) (by decide) (by decide) (by decide) (by rw [hR]; decide) (by rw [hR]; decide) dX9_init_417 (fun q50 => ?_)
  refine wc_putF C (p := 0) (j := 66) (hin rfl) rfl rfl in_X9 (by decide) tyX9 tyX9_ok nmX9 f_X9_165 rfl rfl (tyX9_ok 66 (by decide)) rfl rfl (by decide) dX9_init_419 ?_
  refine wc_aload_n C (i := 0) dX9_init_422 rfl rfl ?_
  refine wc_bipush C (v := 60) dX9_init_423 (by decide) ?_
  refine wc_newa C (t0 := 1) (N := 60) rfl rfl (fun _ _ h => h) ar_boolean (fun _ => rfl) (by decide) (by decide) (by decide) (by rw [hR]; decide) (by rw [hR]; decide) dX9_init_425 (fun q51 => ?_)
  refine wc_putF C (p := 0) (j := 67) (hin rfl) rfl rfl in_X9 (by decide) tyX9 tyX9_ok nmX9 f_X9_168 rfl rfl (tyX9_ok 67 (by decide)) rfl rfl (by decide) dX9_init_427 ?_
  refine wc_aload_n C (i := 0) dX9_init_430 rfl rfl ?_
  refine wc_bipush C (v := 7) dX9_init_431 (by decide) ?_
  refine wc_newa C (t0 := 0) (N := 7) rfl rfl (fun _ _ h => h) ar_int (fun _ => rfl) (by decide) (by decide) (by decide) (by rw [hR]; decide) (by rw [hR]; decide) dX9_init_433 (fun q52 => ?_)
  refine wc_putF C (p := 0) (j := 68) (hin rfl) rfl rfl in_X9 (by decide) tyX9 tyX9_ok nmX9 f_X9_171 rfl rfl (tyX9_ok 68 (by decide)) rfl rfl (by decide) dX9_init_435 ?_
  refine wc_aload_n C (i := 0) dX9_init_438 rfl rfl ?_
  refine wc_bipush C (v := 7) dX9_init_439 (by decide) ?_
  refine wc_newa C (t0 := 0) (N := 7) rfl rfl (fun _ _ h => h) ar_int (fun _ => rfl) (by decide) (by decide) (by decide) (by rw [hR]; decide) (by rw [hR]; decide) dX9_init_441 (fun q53 => ?_)
  refine wc_putF C (p := 0) (j := 69) (hin rfl) rfl rfl in_X9 (by decide) tyX9 tyX9_ok nmX9 f_X9_174 rfl rfl (tyX9_ok 69 (by decide)) rfl rfl (by decide) dX9_init_443 ?_
  refine wc_aload_n C (i := 0) dX9_init_446 rfl rfl ?_
  refine wc_bipush C (v := 7) dX9_init_447 (by decide) ?_
  refine wc_newa C (t0 := 0) (N := 7) rfl rfl (fun _ _ h => h) ar_int (fun _ => rfl) (by decide) (by decide) (by decide) (by rw [hR]; decide) (by rw [hR]; decide) dX9_init_449 (fun q54 => ?_)
  refine wc_putF C (p := 0) (j := 70) (hin rfl) rfl rfl in_X9 (by decide) tyX9 tyX9_ok nmX9 f_X9_177 rfl rfl (tyX9_ok 70 (by decide)) rfl rfl (by decide) dX9_init_451 ?_
  refine wc_aload_n C (i := 0) dX9_init_454 rfl rfl ?_
  refine wc_bipush C (v := 12) dX9_init_455 (by decide) ?_
  refine wc_newa C (t0 := 0) (N := 12) rfl rfl (fun _ _ h => h) ar_int (fun _ => rfl) (by decide) (by decide) (by decide) (by rw [hR]; decide) (by rw [hR]; decide) dX9_init_457 (fun q55 => ?_)
  refine wc_putF C (p := 0) (j := 71) (hin rfl) rfl rfl in_X9 (by decide) tyX9 tyX9_ok nmX9 f_X9_180 rfl rfl (tyX9_ok 71 (by decide)) rfl rfl (by decide) dX9_init_459 ?_
  exact hret _ _ _ dX9_init_462 ⟨q0, q1, q2, q3, q4, q5, q6, q7, q8, q9, q10, q11, q12, q13, q14, q15, q16, q17, q18, q19, q20, q21, q22, q23, q24, q25, q26, q27, q28, q29, q30, q31, q32, q33, q34, q35, q36, q37, q38, q39, q40, q41, q42, q43, q44, q45, q46, q47, q48, q49, q50, q51, q52, q53, q54, q55, rfl⟩
