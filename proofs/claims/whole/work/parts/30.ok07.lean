set_option maxRecDepth 20000 in
theorem ok_X8_next {l : Launch} {E : fp_E} {x1 : Int32} {g : fp_G} {K : Int32 → fp_G → Prop} (h : w_X8_next x1 g K) : fp_M l E yX8_next cX8_next 3 ((Option.some Jvm.ClassFile.FieldType.int)) false 4 [.ref 0, .int x1] g K := by
  unfold w_X8_next at h
  refine fp_enter rfl [some (.ref 0), some (.int x1), none] (Nat.le_of_ble_eq_true rfl) (fun q hq => hq) (fun Z hE hl hv hK hn hd C => ?_)
  subst hE hl hK
  refine wa_aload_n C (i := 0) dX8_next_0 rfl rfl ?_
  refine wa_iload_n C (i := 1) dX8_next_1 rfl rfl ?_
  refine wa_callVi C lq_0 sh_0 rfl s_X8_185 i_X8_notAtOffice e_X8_notAtOffice dX8_next_2 (ok_X8_notAtOffice h) rfl rfl (Nat.le_of_ble_eq_true rfl) (by rw [hd]; decide) (fun v1 g1 h => ?_)
  refine wa_istore_n C (i := 2) dX8_next_5 rfl (by rw [hn]; decide) rfl rfl ?_
  refine wa_iload_n C (i := 2) dX8_next_6 rfl rfl ?_
  refine wa_if_ge C (tgt := 16) dX8_next_7 (by decide) h (fun h => ?_) (fun h => ?_)
  · refine wa_aload_n C (i := 0) dX8_next_16 rfl rfl ?_
    refine wa_getR C (j := 1) lq_0 sh_0 rfl in_X8 (by decide) rfl f_X8_20 dX8_next_17 ?_
    refine wa_aload_n C (i := 0) dX8_next_20 rfl rfl ?_
    refine wa_getR C (j := 5) lq_0 sh_0 rfl in_X8 (by decide) rfl f_X8_41 dX8_next_21 ?_
    refine wa_getR C (j := 1) lq_43 sh_43 rfl in_X0 (by decide) rfl f_X8_192 dX8_next_24 ?_
    refine wa_iload_n C (i := 1) dX8_next_27 rfl rfl ?_
    refine wa_iald C lq_45 sh_45 dX8_next_28 h (fun v2 h => ?_)
    refine wa_aload_n C (i := 0) dX8_next_29 rfl rfl ?_
    refine wa_getR C (j := 0) lq_0 sh_0 rfl in_X8 (by decide) rfl f_X8_10 dX8_next_30 ?_
    refine wa_aload_n C (i := 0) dX8_next_33 rfl rfl ?_
    refine wa_getR C (j := 5) lq_0 sh_0 rfl in_X8 (by decide) rfl f_X8_41 dX8_next_34 ?_
    refine wa_iload_n C (i := 1) dX8_next_37 rfl rfl ?_
    refine wa_aload_n C (i := 0) dX8_next_38 rfl rfl ?_
    refine wa_getI C (j := 9) lq_0 sh_0 rfl in_X8 (by decide) rfl f_X8_95 dX8_next_39 ?_
    refine wa_callVi C lq_2 sh_2 rfl s_X8_227 i_X4_goalOf e_X4_goalOf dX8_next_42 (ok_X4_goalOf isC_43 h) rfl rfl (Nat.le_of_ble_eq_true rfl) (by rw [hd]; decide) (fun v3 g2 h => ?_)
    refine wa_callVi C lq_6 sh_6 rfl s_X8_231 i_X2_wayTo e_X2_wayTo dX8_next_45 (ok_X2_wayTo h) rfl rfl (Nat.le_of_ble_eq_true rfl) (by rw [hd]; decide) (fun v4 g3 h => ?_)
    exact wa_iret C hv rfl dX8_next_48 h
  · refine wa_aload_n C (i := 0) dX8_next_10 rfl rfl ?_
    refine wa_iload_n C (i := 2) dX8_next_11 rfl rfl ?_
    refine wa_callVi C lq_0 sh_0 rfl s_X8_59 i_X8_refuse e_X8_refuse dX8_next_12 (ok_X8_refuse h) rfl rfl (Nat.le_of_ble_eq_true rfl) (by rw [hd]; decide) (fun v5 g4 h => ?_)
    exact wa_iret C hv rfl dX8_next_15 h

set_option maxRecDepth 20000 in
theorem ok_X8_trace {l : Launch} {E : fp_E} {x1 : Int32} {x2 : Int32} {g : fp_G} {K : Int32 → fp_G → Prop} (h : w_X8_trace x1 x2 g K) : fp_M l E yX8_trace cX8_trace 3 ((Option.some Jvm.ClassFile.FieldType.int)) false 2 [.ref 0, .int x1, .int x2] g K := by
  unfold w_X8_trace at h
  refine fp_enter rfl [some (.ref 0), some (.int x1), some (.int x2)] (Nat.le_of_ble_eq_true rfl) (fun q hq => hq) (fun Z hE hl hv hK hn hd C => ?_)
  subst hE hl hK
  refine wa_aload_n C (i := 0) dX8_trace_0 rfl rfl ?_
  refine wa_getR C (j := 4) lq_0 sh_0 rfl in_X8 (by decide) rfl f_X8_35 dX8_trace_1 ?_
  refine wa_iload_n C (i := 1) dX8_trace_4 rfl rfl ?_
  refine wa_callVi C lq_37 sh_37 rfl s_X8_202 i_X1_has e_X1_has dX8_trace_5 (ok_X1_has h) rfl rfl (Nat.le_of_ble_eq_true rfl) (by rw [hd]; decide) (fun v1 g1 h => ?_)
  refine wa_if_ne C (tgt := 17) dX8_trace_8 (by decide) h (fun h => ?_) (fun h => ?_)
  · refine wa_aload_n C (i := 0) dX8_trace_11 rfl rfl ?_
    refine wa_iconst C (v := (-1)) dX8_trace_12 (by decide) ?_
    refine wa_callVi C lq_0 sh_0 rfl s_X8_59 i_X8_refuse e_X8_refuse dX8_trace_13 (ok_X8_refuse h) rfl rfl (Nat.le_of_ble_eq_true rfl) (by rw [hd]; decide) (fun v3 g3 h => ?_)
    exact wa_iret C hv rfl dX8_trace_16 h
  · refine wa_aload_n C (i := 0) dX8_trace_17 rfl rfl ?_
    refine wa_getR C (j := 5) lq_0 sh_0 rfl in_X8 (by decide) rfl f_X8_41 dX8_trace_18 ?_
    refine wa_iload_n C (i := 1) dX8_trace_21 rfl rfl ?_
    refine wa_iload_n C (i := 2) dX8_trace_22 rfl rfl ?_
    refine wa_callVi C lq_43 sh_43 rfl s_X8_234 i_X0_traced e_X0_traced dX8_trace_23 (ok_X0_traced isC_43 h) rfl rfl (Nat.le_of_ble_eq_true rfl) (by rw [hd]; decide) (fun v2 g2 h => ?_)
    exact wa_iret C hv rfl dX8_trace_26 h

set_option maxRecDepth 20000 in
theorem ok_X8_fro {l : Launch} {E : fp_E} {x1 : Int32} {g : fp_G} {K : Int32 → fp_G → Prop} (h : w_X8_fro x1 g K) : fp_M l E yX8_fro cX8_fro 2 ((Option.some Jvm.ClassFile.FieldType.int)) false 3 [.ref 0, .int x1] g K := by
  unfold w_X8_fro at h
  refine fp_enter rfl [some (.ref 0), some (.int x1)] (Nat.le_of_ble_eq_true rfl) (fun q hq => hq) (fun Z hE hl hv hK hn hd C => ?_)
  subst hE hl hK
  refine wa_aload_n C (i := 0) dX8_fro_0 rfl rfl ?_
  refine wa_getR C (j := 4) lq_0 sh_0 rfl in_X8 (by decide) rfl f_X8_35 dX8_fro_1 ?_
  refine wa_iload_n C (i := 1) dX8_fro_4 rfl rfl ?_
  refine wa_callVi C lq_37 sh_37 rfl s_X8_202 i_X1_has e_X1_has dX8_fro_5 (ok_X1_has h) rfl rfl (Nat.le_of_ble_eq_true rfl) (by rw [hd]; decide) (fun v1 g1 h => ?_)
  refine wa_if_ne C (tgt := 17) dX8_fro_8 (by decide) h (fun h => ?_) (fun h => ?_)
  · refine wa_aload_n C (i := 0) dX8_fro_11 rfl rfl ?_
    refine wa_iconst C (v := (-1)) dX8_fro_12 (by decide) ?_
    refine wa_callVi C lq_0 sh_0 rfl s_X8_59 i_X8_refuse e_X8_refuse dX8_fro_13 (ok_X8_refuse h) rfl rfl (Nat.le_of_ble_eq_true rfl) (by rw [hd]; decide) (fun v3 g3 h => ?_)
    exact wa_iret C hv rfl dX8_fro_16 h
  · refine wa_aload_n C (i := 0) dX8_fro_17 rfl rfl ?_
    refine wa_getR C (j := 5) lq_0 sh_0 rfl in_X8 (by decide) rfl f_X8_41 dX8_fro_18 ?_
    refine wa_iload_n C (i := 1) dX8_fro_21 rfl rfl ?_
    refine wa_callVi C lq_43 sh_43 rfl s_X8_237 i_X0_toAndFro e_X0_toAndFro dX8_fro_22 (ok_X0_toAndFro isC_43 h) rfl rfl (Nat.le_of_ble_eq_true rfl) (by rw [hd]; decide) (fun v2 g2 h => ?_)
    exact wa_iret C hv rfl dX8_fro_25 h

set_option maxRecDepth 20000 in
theorem ok_X8_endOf {l : Launch} {E : fp_E} {c : Nat} (hc : fp_isC c) {x1 : Int32} {x2 : Int32} {g : fp_G} {K : Int32 → fp_G → Prop} (h : w_X8_endOf c x1 x2 g K) : fp_M l E yX8_endOf cX8_endOf 3 ((Option.some Jvm.ClassFile.FieldType.int)) false 1 [.ref c, .int x1, .int x2] g K := by
  unfold w_X8_endOf at h
  refine fp_enter rfl [some (.ref c), some (.int x1), some (.int x2)] (Nat.le_of_ble_eq_true rfl) (fun q hq => hq) (fun Z hE hl hv hK hn hd C => ?_)
  subst hE hl hK
  refine wa_iload_n C (i := 2) dX8_endOf_0 rfl rfl ?_
  refine wa_if_ne C (tgt := 13) dX8_endOf_1 (by decide) h (fun h => ?_) (fun h => ?_)
  · refine wa_aload_n C (i := 0) dX8_endOf_4 rfl rfl ?_
    refine wa_getR C (j := 2) (ltC0 hc) (shC hc) rfl in_X0 (by decide) rfl f_X8_211 dX8_endOf_5 ?_
    refine wa_iload_n C (i := 1) dX8_endOf_8 rfl rfl ?_
    refine wa_iald C (ltC hc (by decide)) (shC_3 hc) dX8_endOf_9 h (fun v2 h => ?_)
    refine wa_goto C (tgt := 19) dX8_endOf_10 (by decide) ?_
    exact wa_iret C hv rfl dX8_endOf_19 h
  · refine wa_aload_n C (i := 0) dX8_endOf_13 rfl rfl ?_
    refine wa_getR C (j := 0) (ltC0 hc) (shC hc) rfl in_X0 (by decide) rfl f_X8_208 dX8_endOf_14 ?_
    refine wa_iload_n C (i := 1) dX8_endOf_17 rfl rfl ?_
    refine wa_iald C (ltC hc (by decide)) (shC_1 hc) dX8_endOf_18 h (fun v1 h => ?_)
    exact wa_iret C hv rfl dX8_endOf_19 h

set_option maxRecDepth 20000 in
theorem ok_X8_after_74 {Z : fp_Z} (C : fp_C Z cX8_after RX8 ((Option.some Jvm.ClassFile.FieldType.int))) (hv : fp_V Z false) (hn : Z.2.2.2.2.1 = 4) (hd : Z.2.2.2.2.2.1 = 8) {x1 : Int32} {x2 : Int32} : ∀ (n : Nat) (x3 : Int32) (g : fp_G), w_X8_after_74 n x1 x2 x3 g Z.2.2.2.1 → WA Z 74 [some (.ref 0), some (.int x1), some (.int x2), some (.int x3)] [] g := by
  intro n
  induction n with
  | zero => intro x3 g h; exact h.elim
  | succ n ih =>
    intro x3 g h
    rw [w_X8_after_74] at h
    refine wa_iload_n C (i := 3) dX8_after_74 rfl rfl ?_
    refine wa_sipush C (v := 300) dX8_after_75 (by decide) ?_
    refine wa_icmp_ge C (tgt := 125) dX8_after_78 (by decide) h (fun h => ?_) (fun h => ?_)
    · refine wa_bipush C (v := (-9)) dX8_after_125 (by decide) ?_
      exact wa_iret C hv rfl dX8_after_127 h
    · refine wa_aload_n C (i := 0) dX8_after_81 rfl rfl ?_
      refine wa_getR C (j := 0) lq_0 sh_0 rfl in_X8 (by decide) rfl f_X8_10 dX8_after_82 ?_
      refine wa_aload_n C (i := 0) dX8_after_85 rfl rfl ?_
      refine wa_getR C (j := 6) lq_0 sh_0 rfl in_X8 (by decide) rfl f_X8_45 dX8_after_86 ?_
      refine wa_aload_n C (i := 0) dX8_after_89 rfl rfl ?_
      refine wa_getI C (j := 9) lq_0 sh_0 rfl in_X8 (by decide) rfl f_X8_95 dX8_after_90 ?_
      refine wa_iload_n C (i := 3) dX8_after_93 rfl rfl ?_
      refine wa_iadd C dX8_after_94 ?_
      refine wa_callVv C lq_2 sh_2 rfl s_X8_114 i_X4_passHour e_X4_passHour dX8_after_95 (ok_X4_passHour isC_52 h) rfl rfl (Nat.le_of_ble_eq_true rfl) (by rw [hd]; decide) (fun g4 h => ?_)
      refine wa_aload_n C (i := 0) dX8_after_98 rfl rfl ?_
      refine wa_getR C (j := 6) lq_0 sh_0 rfl in_X8 (by decide) rfl f_X8_45 dX8_after_99 ?_
      refine wa_iload_n C (i := 1) dX8_after_102 rfl rfl ?_
      refine wa_callVi C lq_52 sh_52 rfl s_X8_240 i_X0_ended e_X0_ended dX8_after_103 (ok_X0_ended isC_52 h) rfl rfl (Nat.le_of_ble_eq_true rfl) (by rw [hd]; decide) (fun v5 g5 h => ?_)
      refine wa_if_eq C (tgt := 119) dX8_after_106 (by decide) h (fun h => ?_) (fun h => ?_)
      · refine wa_iinc C (i := 3) dX8_after_119 rfl (fp_inc1 _) (by rw [hn]; decide) rfl rfl ?_
        refine wa_goto C (tgt := 74) dX8_after_122 (by decide) ?_
        exact WA.weak (ih _ _ h) ⟨rfl, ⟨rfl, ⟨rfl, ⟨rfl, trivial⟩⟩⟩⟩
      · refine wa_aload_n C (i := 0) dX8_after_109 rfl rfl ?_
        refine wa_getR C (j := 6) lq_0 sh_0 rfl in_X8 (by decide) rfl f_X8_45 dX8_after_110 ?_
        refine wa_iload_n C (i := 1) dX8_after_113 rfl rfl ?_
        refine wa_iload_n C (i := 2) dX8_after_114 rfl rfl ?_
        refine wa_callSi C s_X8_243 t_X8_endOf dX8_after_115 (ok_X8_endOf isC_52 h) rfl rfl (Nat.le_of_ble_eq_true rfl) (by rw [hd]; decide) (fun v6 g6 h => ?_)
        exact wa_iret C hv rfl dX8_after_118 h

set_option maxRecDepth 20000 in
theorem ok_X8_after {l : Launch} {E : fp_E} {x1 : Int32} {x2 : Int32} {g : fp_G} {K : Int32 → fp_G → Prop} (h : w_X8_after x1 x2 g K) : fp_M l E yX8_after cX8_after 4 ((Option.some Jvm.ClassFile.FieldType.int)) false 8 [.ref 0, .int x1, .int x2] g K := by
  unfold w_X8_after at h
  refine fp_enter rfl [some (.ref 0), some (.int x1), some (.int x2), none] (Nat.le_of_ble_eq_true rfl) (fun q hq => hq) (fun Z hE hl hv hK hn hd C => ?_)
  subst hE hl hK
  refine wa_aload_n C (i := 0) dX8_after_0 rfl rfl ?_
  refine wa_getR C (j := 4) lq_0 sh_0 rfl in_X8 (by decide) rfl f_X8_35 dX8_after_1 ?_
  refine wa_iload_n C (i := 1) dX8_after_4 rfl rfl ?_
  refine wa_callVi C lq_37 sh_37 rfl s_X8_202 i_X1_has e_X1_has dX8_after_5 (ok_X1_has h) rfl rfl (Nat.le_of_ble_eq_true rfl) (by rw [hd]; decide) (fun v1 g1 h => ?_)
  refine wa_if_ne C (tgt := 17) dX8_after_8 (by decide) h (fun h => ?_) (fun h => ?_)
  · refine wa_aload_n C (i := 0) dX8_after_11 rfl rfl ?_
    refine wa_iconst C (v := (-1)) dX8_after_12 (by decide) ?_
    refine wa_callVi C lq_0 sh_0 rfl s_X8_59 i_X8_refuse e_X8_refuse dX8_after_13 (ok_X8_refuse h) rfl rfl (Nat.le_of_ble_eq_true rfl) (by rw [hd]; decide) (fun v9 g9 h => ?_)
    exact wa_iret C hv rfl dX8_after_16 h
  · refine wa_iload_n C (i := 2) dX8_after_17 rfl rfl ?_
    refine fp_k0 (Q := WA Z 33 [some (.ref 0), some (.int x1), some (.int x2), none] [] g1) h (fun  h => ?_) (fun J33 hJ33 h => ?_)
    · refine wa_aload_n C (i := 0) dX8_after_33 rfl rfl ?_
      refine wa_getR C (j := 5) lq_0 sh_0 rfl in_X8 (by decide) rfl f_X8_41 dX8_after_34 ?_
      refine wa_iload_n C (i := 1) dX8_after_37 rfl rfl ?_
      refine wa_callVi C lq_43 sh_43 rfl s_X8_240 i_X0_ended e_X0_ended dX8_after_38 (ok_X0_ended isC_43 h) rfl rfl (Nat.le_of_ble_eq_true rfl) (by rw [hd]; decide) (fun v2 g2 h => ?_)
      refine wa_if_eq C (tgt := 54) dX8_after_41 (by decide) h (fun h => ?_) (fun h => ?_)
      · refine wa_aload_n C (i := 0) dX8_after_54 rfl rfl ?_
        refine wa_getR C (j := 6) lq_0 sh_0 rfl in_X8 (by decide) rfl f_X8_45 dX8_after_55 ?_
        refine wa_aload_n C (i := 0) dX8_after_58 rfl rfl ?_
        refine wa_getR C (j := 5) lq_0 sh_0 rfl in_X8 (by decide) rfl f_X8_41 dX8_after_59 ?_
        refine wa_aload_n C (i := 0) dX8_after_62 rfl rfl ?_
        refine wa_getR C (j := 4) lq_0 sh_0 rfl in_X8 (by decide) rfl f_X8_35 dX8_after_63 ?_
        refine wa_getI C (j := 5) lq_37 sh_37 rfl in_X1 (by decide) rfl f_X8_157 dX8_after_66 ?_
        refine wa_callVv C lq_52 sh_52 rfl s_X8_246 i_X0_copyFrom e_X0_copyFrom dX8_after_69 (ok_X0_copyFrom isC_52 h) rfl rfl (Nat.le_of_ble_eq_true rfl) (by rw [hd]; decide) (fun g3 h => ?_)
        refine wa_iconst C (v := 0) dX8_after_72 (by decide) ?_
        refine wa_istore_n C (i := 3) dX8_after_73 rfl (by rw [hn]; decide) rfl rfl ?_
        obtain ⟨n74, h⟩ := h
        exact WA.weak (ok_X8_after_74 C hv hn hd n74 _ _ h) ⟨rfl, ⟨rfl, ⟨rfl, ⟨rfl, trivial⟩⟩⟩⟩
      · refine wa_aload_n C (i := 0) dX8_after_44 rfl rfl ?_
        refine wa_getR C (j := 5) lq_0 sh_0 rfl in_X8 (by decide) rfl f_X8_41 dX8_after_45 ?_
        refine wa_iload_n C (i := 1) dX8_after_48 rfl rfl ?_
        refine wa_iload_n C (i := 2) dX8_after_49 rfl rfl ?_
        refine wa_callSi C s_X8_243 t_X8_endOf dX8_after_50 (ok_X8_endOf isC_43 h) rfl rfl (Nat.le_of_ble_eq_true rfl) (by rw [hd]; decide) (fun v7 g7 h => ?_)
        exact wa_iret C hv rfl dX8_after_53 h
    refine wa_if_eq C (tgt := 33) dX8_after_18 (by decide) h (fun h => ?_) (fun h => ?_)
    · exact WA.weak (hJ33  h) ⟨rfl, ⟨rfl, ⟨rfl, trivial⟩⟩⟩
    · refine wa_iload_n C (i := 2) dX8_after_21 rfl rfl ?_
      refine wa_iconst C (v := 1) dX8_after_22 (by decide) ?_
      refine wa_icmp_eq C (tgt := 33) dX8_after_23 (by decide) h (fun h => ?_) (fun h => ?_)
      · exact WA.weak (hJ33  h) ⟨rfl, ⟨rfl, ⟨rfl, trivial⟩⟩⟩
      · refine wa_aload_n C (i := 0) dX8_after_26 rfl rfl ?_
        refine wa_bipush C (v := (-2)) dX8_after_27 (by decide) ?_
        refine wa_callVi C lq_0 sh_0 rfl s_X8_59 i_X8_refuse e_X8_refuse dX8_after_29 (ok_X8_refuse h) rfl rfl (Nat.le_of_ble_eq_true rfl) (by rw [hd]; decide) (fun v8 g8 h => ?_)
        exact wa_iret C hv rfl dX8_after_32 h

set_option maxRecDepth 20000 in
theorem ok_X8_paid_21 {Z : fp_Z} (C : fp_C Z cX8_paid RX8 ((Option.some Jvm.ClassFile.FieldType.int))) (hv : fp_V Z false) (hn : Z.2.2.2.2.1 = 4) (hd : Z.2.2.2.2.2.1 = 2) {x1 : Int32} : ∀ (n : Nat) (x2 : Int32) (x3 : Int32) (g : fp_G), w_X8_paid_21 n x1 x2 x3 g Z.2.2.2.1 → WA Z 21 [some (.ref 0), some (.int x1), some (.int x2), some (.int x3)] [] g := by
  intro n
  induction n with
  | zero => intro x2 x3 g h; exact h.elim
  | succ n ih =>
    intro x2 x3 g h
    rw [w_X8_paid_21] at h
    refine wa_iload_n C (i := 3) dX8_paid_21 rfl rfl ?_
    refine wa_aload_n C (i := 0) dX8_paid_22 rfl rfl ?_
    refine wa_getR C (j := 4) lq_0 sh_0 rfl in_X8 (by decide) rfl f_X8_35 dX8_paid_23 ?_
    refine wa_getI C (j := 5) lq_37 sh_37 rfl in_X1 (by decide) rfl f_X8_157 dX8_paid_26 ?_
    refine wa_icmp_ge C (tgt := 89) dX8_paid_29 (by decide) h (fun h => ?_) (fun h => ?_)
    · refine wa_iload_n C (i := 2) dX8_paid_89 rfl rfl ?_
      exact wa_iret C hv rfl dX8_paid_90 h
    · refine wa_aload_n C (i := 0) dX8_paid_32 rfl rfl ?_
      refine wa_getR C (j := 4) lq_0 sh_0 rfl in_X8 (by decide) rfl f_X8_35 dX8_paid_33 ?_
      refine wa_getR C (j := 2) lq_37 sh_37 rfl in_X1 (by decide) rfl f_X8_249 dX8_paid_36 ?_
      refine wa_iload_n C (i := 3) dX8_paid_39 rfl rfl ?_
      refine wa_iald C lq_40 sh_40 dX8_paid_40 h (fun v2 h => ?_)
      refine wa_iload_n C (i := 1) dX8_paid_41 rfl rfl ?_
      refine fp_k1 (Q := fun x2j83 => WA Z 83 [some (.ref 0), some (.int x1), some (.int x2j83), some (.int x3)] [] g) h (fun x2j83 h => ?_) (fun J83 hJ83 h => ?_)
      · refine wa_iinc C (i := 3) dX8_paid_83 rfl (fp_inc1 _) (by rw [hn]; decide) rfl rfl ?_
        refine wa_goto C (tgt := 21) dX8_paid_86 (by decide) ?_
        exact WA.weak (ih _ _ _ h) ⟨rfl, ⟨rfl, ⟨rfl, ⟨rfl, trivial⟩⟩⟩⟩
      refine wa_icmp_ne C (tgt := 83) dX8_paid_42 (by decide) h (fun h => ?_) (fun h => ?_)
      · refine wa_aload_n C (i := 0) dX8_paid_45 rfl rfl ?_
        refine wa_getR C (j := 4) lq_0 sh_0 rfl in_X8 (by decide) rfl f_X8_35 dX8_paid_46 ?_
        refine wa_getR C (j := 0) lq_37 sh_37 rfl in_X1 (by decide) rfl f_X8_205 dX8_paid_49 ?_
        refine wa_iload_n C (i := 3) dX8_paid_52 rfl rfl ?_
        refine wa_iald C lq_38 sh_38 dX8_paid_53 h (fun v3 h => ?_)
        refine wa_iconst C (v := 2) dX8_paid_54 (by decide) ?_
        refine wa_icmp_ne C (tgt := 83) dX8_paid_55 (by decide) h (fun h => ?_) (fun h => ?_)
        · refine wa_aload_n C (i := 0) dX8_paid_58 rfl rfl ?_
          refine wa_getR C (j := 5) lq_0 sh_0 rfl in_X8 (by decide) rfl f_X8_41 dX8_paid_59 ?_
          refine wa_getR C (j := 0) lq_43 sh_43 rfl in_X0 (by decide) rfl f_X8_208 dX8_paid_62 ?_
          refine wa_iload_n C (i := 3) dX8_paid_65 rfl rfl ?_
          refine wa_iald C lq_44 sh_44 dX8_paid_66 h (fun v4 h => ?_)
          refine wa_iconst C (v := 2) dX8_paid_67 (by decide) ?_
          refine wa_icmp_ne C (tgt := 83) dX8_paid_68 (by decide) h (fun h => ?_) (fun h => ?_)
          · refine wa_iload_n C (i := 2) dX8_paid_71 rfl rfl ?_
            refine wa_aload_n C (i := 0) dX8_paid_72 rfl rfl ?_
            refine wa_getR C (j := 4) lq_0 sh_0 rfl in_X8 (by decide) rfl f_X8_35 dX8_paid_73 ?_
            refine wa_getR C (j := 3) lq_37 sh_37 rfl in_X1 (by decide) rfl f_X8_252 dX8_paid_76 ?_
            refine wa_iload_n C (i := 3) dX8_paid_79 rfl rfl ?_
            refine wa_iald C lq_41 sh_41 dX8_paid_80 h (fun v5 h => ?_)
            refine wa_iadd C dX8_paid_81 ?_
            refine wa_istore_n C (i := 2) dX8_paid_82 rfl (by rw [hn]; decide) rfl rfl ?_
            exact WA.weak (hJ83 _ h) ⟨rfl, ⟨rfl, ⟨rfl, ⟨rfl, trivial⟩⟩⟩⟩
          · exact WA.weak (hJ83 _ h) ⟨rfl, ⟨rfl, ⟨rfl, ⟨rfl, trivial⟩⟩⟩⟩
        · exact WA.weak (hJ83 _ h) ⟨rfl, ⟨rfl, ⟨rfl, ⟨rfl, trivial⟩⟩⟩⟩
      · exact WA.weak (hJ83 _ h) ⟨rfl, ⟨rfl, ⟨rfl, ⟨rfl, trivial⟩⟩⟩⟩

set_option maxRecDepth 20000 in
theorem ok_X8_paid {l : Launch} {E : fp_E} {x1 : Int32} {g : fp_G} {K : Int32 → fp_G → Prop} (h : w_X8_paid x1 g K) : fp_M l E yX8_paid cX8_paid 4 ((Option.some Jvm.ClassFile.FieldType.int)) false 2 [.ref 0, .int x1] g K := by
  unfold w_X8_paid at h
  refine fp_enter rfl [some (.ref 0), some (.int x1), none, none] (Nat.le_of_ble_eq_true rfl) (fun q hq => hq) (fun Z hE hl hv hK hn hd C => ?_)
  subst hE hl hK
  refine wa_aload_n C (i := 0) dX8_paid_0 rfl rfl ?_
  refine wa_getR C (j := 2) lq_0 sh_0 rfl in_X8 (by decide) rfl f_X8_25 dX8_paid_1 ?_
  refine wa_iload_n C (i := 1) dX8_paid_4 rfl rfl ?_
  refine wa_callVi C lq_18 sh_18 rfl s_X8_139 i_X6_hasMan e_X6_hasMan dX8_paid_5 (ok_X6_hasMan h) rfl rfl (Nat.le_of_ble_eq_true rfl) (by rw [hd]; decide) (fun v1 g1 h => ?_)
  refine wa_if_ne C (tgt := 17) dX8_paid_8 (by decide) h (fun h => ?_) (fun h => ?_)
  · refine wa_aload_n C (i := 0) dX8_paid_11 rfl rfl ?_
    refine wa_iconst C (v := (-1)) dX8_paid_12 (by decide) ?_
    refine wa_callVi C lq_0 sh_0 rfl s_X8_59 i_X8_refuse e_X8_refuse dX8_paid_13 (ok_X8_refuse h) rfl rfl (Nat.le_of_ble_eq_true rfl) (by rw [hd]; decide) (fun v6 g2 h => ?_)
    exact wa_iret C hv rfl dX8_paid_16 h
  · refine wa_iconst C (v := 0) dX8_paid_17 (by decide) ?_
    refine wa_istore_n C (i := 2) dX8_paid_18 rfl (by rw [hn]; decide) rfl rfl ?_
    refine wa_iconst C (v := 0) dX8_paid_19 (by decide) ?_
    refine wa_istore_n C (i := 3) dX8_paid_20 rfl (by rw [hn]; decide) rfl rfl ?_
    obtain ⟨n21, h⟩ := h
    exact WA.weak (ok_X8_paid_21 C hv hn hd n21 _ _ _ h) ⟨rfl, ⟨rfl, ⟨rfl, ⟨rfl, trivial⟩⟩⟩⟩

set_option maxRecDepth 20000 in
theorem ok_X8_notACover {l : Launch} {E : fp_E} {x0 : Int32} {x1 : Int32} {g : fp_G} {K : Int32 → fp_G → Prop} (h : w_X8_notACover x0 x1 g K) : fp_M l E yX8_notACover cX8_notACover 2 ((Option.some Jvm.ClassFile.FieldType.int)) false 2 [.int x0, .int x1] g K := by
  unfold w_X8_notACover at h
  refine fp_enter rfl [some (.int x0), some (.int x1)] (Nat.le_of_ble_eq_true rfl) (fun q hq => hq) (fun Z hE hl hv hK hn hd C => ?_)
  subst hE hl hK
  refine wa_iload_n C (i := 0) dX8_notACover_0 rfl rfl ?_
  refine wa_iconst C (v := (-1)) dX8_notACover_1 (by decide) ?_
  refine fp_j0 (Q := fun g1 => WA Z 12 [none, some (.int x1)] [] g1) h (fun g1 h => ?_) (fun J12 hJ12 h => ?_)
  · refine wa_iload_n C (i := 1) dX8_notACover_12 rfl rfl ?_
    refine wa_iconst C (v := 0) dX8_notACover_13 (by decide) ?_
    refine wa_sipush C (v := 14640) dX8_notACover_14 (by decide) ?_
    refine wa_callSi C s_X8_77 t_X8_outside dX8_notACover_17 (ok_X8_outside h) rfl rfl (Nat.le_of_ble_eq_true rfl) (by rw [hd]; decide) (fun v1 g2 h => ?_)
    refine wa_goto C (tgt := 24) dX8_notACover_20 (by decide) ?_
    exact wa_iret C hv rfl dX8_notACover_24 h
  refine wa_icmp_eq C (tgt := 12) dX8_notACover_2 (by decide) h (fun h => ?_) (fun h => ?_)
  · exact WA.weak (hJ12 _ h) ⟨rfl, trivial⟩
  · refine wa_iload_n C (i := 0) dX8_notACover_5 rfl rfl ?_
    refine wa_callSi C s_X8_118 t_X8_isUnit dX8_notACover_6 (ok_X8_isUnit h) rfl rfl (Nat.le_of_ble_eq_true rfl) (by rw [hd]; decide) (fun v2 g3 h => ?_)
    refine wa_if_eq C (tgt := 23) dX8_notACover_9 (by decide) h (fun h => ?_) (fun h => ?_)
    · refine wa_iconst C (v := (-1)) dX8_notACover_23 (by decide) ?_
      exact wa_iret C hv rfl dX8_notACover_24 h
    · exact WA.weak (hJ12 _ h) ⟨rfl, trivial⟩

set_option maxRecDepth 20000 in
theorem ok_X8_cover {l : Launch} {E : fp_E} {x1 : Int32} {x2 : Int32} {g : fp_G} {K : Int32 → fp_G → Prop} (h : w_X8_cover x1 x2 g K) : fp_M l E yX8_cover cX8_cover 4 ((Option.some Jvm.ClassFile.FieldType.int)) false 3 [.ref 0, .int x1, .int x2] g K := by
  unfold w_X8_cover at h
  refine fp_enter rfl [some (.ref 0), some (.int x1), some (.int x2), none] (Nat.le_of_ble_eq_true rfl) (fun q hq => hq) (fun Z hE hl hv hK hn hd C => ?_)
  subst hE hl hK
  refine wa_iload_n C (i := 1) dX8_cover_0 rfl rfl ?_
  refine wa_iload_n C (i := 2) dX8_cover_1 rfl rfl ?_
  refine wa_callSi C s_X8_255 t_X8_notACover dX8_cover_2 (ok_X8_notACover h) rfl rfl (Nat.le_of_ble_eq_true rfl) (by rw [hd]; decide) (fun v1 g1 h => ?_)
  refine wa_istore_n C (i := 3) dX8_cover_5 rfl (by rw [hn]; decide) rfl rfl ?_
  refine wa_iload_n C (i := 3) dX8_cover_6 rfl rfl ?_
  refine wa_if_ge C (tgt := 18) dX8_cover_7 (by decide) h (fun h => ?_) (fun h => ?_)
  · refine wa_aload_n C (i := 0) dX8_cover_18 rfl rfl ?_
    refine wa_getR C (j := 2) lq_0 sh_0 rfl in_X8 (by decide) rfl f_X8_25 dX8_cover_19 ?_
    refine wa_iload_n C (i := 1) dX8_cover_22 rfl rfl ?_
    refine wa_iload_n C (i := 2) dX8_cover_23 rfl rfl ?_
    refine wa_callVi C lq_18 sh_18 rfl s_X8_258 i_X6_fitting e_X6_fitting dX8_cover_24 (ok_X6_fitting h) rfl rfl (Nat.le_of_ble_eq_true rfl) (by rw [hd]; decide) (fun v2 g2 h => ?_)
    exact wa_iret C hv rfl dX8_cover_27 h
  · refine wa_aload_n C (i := 0) dX8_cover_10 rfl rfl ?_
    refine wa_iload_n C (i := 3) dX8_cover_11 rfl rfl ?_
    refine wa_callVi C lq_0 sh_0 rfl s_X8_59 i_X8_refuse e_X8_refuse dX8_cover_12 (ok_X8_refuse h) rfl rfl (Nat.le_of_ble_eq_true rfl) (by rw [hd]; decide) (fun v3 g3 h => ?_)
    refine wa_goto C (tgt := 27) dX8_cover_15 (by decide) ?_
    exact wa_iret C hv rfl dX8_cover_27 h

set_option maxRecDepth 20000 in
theorem ok_X8_sure {l : Launch} {E : fp_E} {x1 : Int32} {x2 : Int32} {g : fp_G} {K : Int32 → fp_G → Prop} (h : w_X8_sure x1 x2 g K) : fp_M l E yX8_sure cX8_sure 4 ((Option.some Jvm.ClassFile.FieldType.int)) false 3 [.ref 0, .int x1, .int x2] g K := by
  unfold w_X8_sure at h
  refine fp_enter rfl [some (.ref 0), some (.int x1), some (.int x2), none] (Nat.le_of_ble_eq_true rfl) (fun q hq => hq) (fun Z hE hl hv hK hn hd C => ?_)
  subst hE hl hK
  refine wa_iload_n C (i := 1) dX8_sure_0 rfl rfl ?_
  refine wa_iload_n C (i := 2) dX8_sure_1 rfl rfl ?_
  refine wa_callSi C s_X8_255 t_X8_notACover dX8_sure_2 (ok_X8_notACover h) rfl rfl (Nat.le_of_ble_eq_true rfl) (by rw [hd]; decide) (fun v1 g1 h => ?_)
  refine wa_istore_n C (i := 3) dX8_sure_5 rfl (by rw [hn]; decide) rfl rfl ?_
  refine wa_iload_n C (i := 3) dX8_sure_6 rfl rfl ?_
  refine wa_if_ge C (tgt := 16) dX8_sure_7 (by decide) h (fun h => ?_) (fun h => ?_)
  · refine wa_aload_n C (i := 0) dX8_sure_16 rfl rfl ?_
    refine wa_getR C (j := 2) lq_0 sh_0 rfl in_X8 (by decide) rfl f_X8_25 dX8_sure_17 ?_
    refine wa_iload_n C (i := 1) dX8_sure_20 rfl rfl ?_
    refine wa_iload_n C (i := 2) dX8_sure_21 rfl rfl ?_
    refine wa_callVi C lq_18 sh_18 rfl s_X8_258 i_X6_fitting e_X6_fitting dX8_sure_22 (ok_X6_fitting h) rfl rfl (Nat.le_of_ble_eq_true rfl) (by rw [hd]; decide) (fun v2 g2 h => ?_)
    refine wa_iconst C (v := 1) dX8_sure_25 (by decide) ?_
    refine wa_icmp_ne C (tgt := 41) dX8_sure_26 (by decide) h (fun h => ?_) (fun h => ?_)
    · refine wa_aload_n C (i := 0) dX8_sure_29 rfl rfl ?_
      refine wa_getR C (j := 2) lq_0 sh_0 rfl in_X8 (by decide) rfl f_X8_25 dX8_sure_30 ?_
      refine wa_iload_n C (i := 1) dX8_sure_33 rfl rfl ?_
      refine wa_iload_n C (i := 2) dX8_sure_34 rfl rfl ?_
      refine wa_callVi C lq_18 sh_18 rfl s_X8_261 i_X6_firstFitting e_X6_firstFitting dX8_sure_35 (ok_X6_firstFitting h) rfl rfl (Nat.le_of_ble_eq_true rfl) (by rw [hd]; decide) (fun v3 g3 h => ?_)
      refine wa_goto C (tgt := 43) dX8_sure_38 (by decide) ?_
      exact wa_iret C hv rfl dX8_sure_43 h
    · refine wa_bipush C (v := (-9)) dX8_sure_41 (by decide) ?_
      exact wa_iret C hv rfl dX8_sure_43 h
  · refine wa_aload_n C (i := 0) dX8_sure_10 rfl rfl ?_
    refine wa_iload_n C (i := 3) dX8_sure_11 rfl rfl ?_
    refine wa_callVi C lq_0 sh_0 rfl s_X8_59 i_X8_refuse e_X8_refuse dX8_sure_12 (ok_X8_refuse h) rfl rfl (Nat.le_of_ble_eq_true rfl) (by rw [hd]; decide) (fun v4 g4 h => ?_)
    exact wa_iret C hv rfl dX8_sure_15 h

set_option maxRecDepth 20000 in
theorem ok_X8_sack {l : Launch} {E : fp_E} {x1 : Int32} {x2 : Int32} {x3 : Int32} {g : fp_G} {K : Int32 → fp_G → Prop} (h : w_X8_sack x1 x2 x3 g K) : fp_M l E yX8_sack cX8_sack 4 ((Option.some Jvm.ClassFile.FieldType.int)) false 2 [.ref 0, .int x1, .int x2, .int x3] g K := by
  unfold w_X8_sack at h
  refine fp_enter rfl [some (.ref 0), some (.int x1), some (.int x2), some (.int x3)] (Nat.le_of_ble_eq_true rfl) (fun q hq => hq) (fun Z hE hl hv hK hn hd C => ?_)
  subst hE hl hK
  refine wa_iload_n C (i := 1) dX8_sack_0 rfl rfl ?_
  refine wa_iconst C (v := 1) dX8_sack_1 (by decide) ?_
  refine fp_k0 (Q := WA Z 14 [some (.ref 0), none, none, none] [] g) h (fun  h => ?_) (fun J14 hJ14 h => ?_)
  · refine wa_aload_n C (i := 0) dX8_sack_14 rfl rfl ?_
    refine wa_bipush C (v := (-4)) dX8_sack_15 (by decide) ?_
    refine wa_callVi C lq_0 sh_0 rfl s_X8_59 i_X8_refuse e_X8_refuse dX8_sack_17 (ok_X8_refuse h) rfl rfl (Nat.le_of_ble_eq_true rfl) (by rw [hd]; decide) (fun v1 g1 h => ?_)
    exact wa_iret C hv rfl dX8_sack_20 h
  refine wa_icmp_lt C (tgt := 14) dX8_sack_2 (by decide) h (fun h => ?_) (fun h => ?_)
  · exact WA.weak (hJ14  h) ⟨rfl, trivial⟩
  · refine wa_iload_n C (i := 2) dX8_sack_5 rfl rfl ?_
    refine wa_iconst C (v := 1) dX8_sack_6 (by decide) ?_
    refine wa_icmp_lt C (tgt := 14) dX8_sack_7 (by decide) h (fun h => ?_) (fun h => ?_)
    · exact WA.weak (hJ14  h) ⟨rfl, trivial⟩
    · refine wa_iload_n C (i := 3) dX8_sack_10 rfl rfl ?_
      refine wa_if_ge C (tgt := 21) dX8_sack_11 (by decide) h (fun h => ?_) (fun h => ?_)
      · refine wa_iload_n C (i := 1) dX8_sack_21 rfl rfl ?_
        refine wa_bipush C (v := 99) dX8_sack_22 (by decide) ?_
        refine fp_k0 (Q := WA Z 53 [some (.ref 0), none, none, none] [] g) h (fun  h => ?_) (fun J53 hJ53 h => ?_)
        · refine wa_aload_n C (i := 0) dX8_sack_53 rfl rfl ?_
          refine wa_bipush C (v := (-6)) dX8_sack_54 (by decide) ?_
          refine wa_callVi C lq_0 sh_0 rfl s_X8_59 i_X8_refuse e_X8_refuse dX8_sack_56 (ok_X8_refuse h) rfl rfl (Nat.le_of_ble_eq_true rfl) (by rw [hd]; decide) (fun v2 g2 h => ?_)
          exact wa_iret C hv rfl dX8_sack_59 h
        refine wa_icmp_gt C (tgt := 53) dX8_sack_24 (by decide) h (fun h => ?_) (fun h => ?_)
        · exact WA.weak (hJ53  h) ⟨rfl, trivial⟩
        · refine wa_iload_n C (i := 2) dX8_sack_27 rfl rfl ?_
          refine wa_sipush C (v := 999) dX8_sack_28 (by decide) ?_
          refine wa_icmp_gt C (tgt := 53) dX8_sack_31 (by decide) h (fun h => ?_) (fun h => ?_)
          · exact WA.weak (hJ53  h) ⟨rfl, trivial⟩
          · refine wa_iload_n C (i := 3) dX8_sack_34 rfl rfl ?_
            refine wa_sipush C (v := 9999) dX8_sack_35 (by decide) ?_
            refine wa_icmp_gt C (tgt := 53) dX8_sack_38 (by decide) h (fun h => ?_) (fun h => ?_)
            · exact WA.weak (hJ53  h) ⟨rfl, trivial⟩
            · refine wa_aload_n C (i := 0) dX8_sack_41 rfl rfl ?_
              refine wa_getR C (j := 7) lq_0 sh_0 rfl in_X8 (by decide) rfl f_X8_51 dX8_sack_42 ?_
              refine wa_getI C (j := 3) lq_61 sh_61 rfl in_X7 (by decide) rfl f_X8_264 dX8_sack_45 ?_
              refine wa_bipush C (v := 7) dX8_sack_48 (by decide) ?_
              refine wa_icmp_lt C (tgt := 60) dX8_sack_50 (by decide) h (fun h => ?_) (fun h => ?_)
              · refine wa_aload_n C (i := 0) dX8_sack_60 rfl rfl ?_
                refine wa_getR C (j := 7) lq_0 sh_0 rfl in_X8 (by decide) rfl f_X8_51 dX8_sack_61 ?_
                refine wa_iload_n C (i := 1) dX8_sack_64 rfl rfl ?_
                refine wa_iload_n C (i := 2) dX8_sack_65 rfl rfl ?_
                refine wa_iload_n C (i := 3) dX8_sack_66 rfl rfl ?_
                refine wa_callVi C lq_61 sh_61 rfl s_X8_267 i_X7_addSack e_X7_addSack dX8_sack_67 (ok_X7_addSack h) rfl rfl (Nat.le_of_ble_eq_true rfl) (by rw [hd]; decide) (fun v3 g3 h => ?_)
                exact wa_iret C hv rfl dX8_sack_70 h
              · exact WA.weak (hJ53  h) ⟨rfl, trivial⟩
      · exact WA.weak (hJ14  h) ⟨rfl, trivial⟩

set_option maxRecDepth 20000 in
theorem ok_X8_best {l : Launch} {E : fp_E} {x1 : Int32} {g : fp_G} {K : Int32 → fp_G → Prop} (h : w_X8_best x1 g K) : fp_M l E yX8_best cX8_best 3 ((Option.some Jvm.ClassFile.FieldType.int)) false 6 [.ref 0, .int x1] g K := by
  unfold w_X8_best at h
  refine fp_enter rfl [some (.ref 0), some (.int x1), none] (Nat.le_of_ble_eq_true rfl) (fun q hq => hq) (fun Z hE hl hv hK hn hd C => ?_)
  subst hE hl hK
  refine wa_iload_n C (i := 1) dX8_best_0 rfl rfl ?_
  refine fp_k0 (Q := WA Z 9 [some (.ref 0), none, none] [] g) h (fun  h => ?_) (fun J9 hJ9 h => ?_)
  · refine wa_aload_n C (i := 0) dX8_best_9 rfl rfl ?_
    refine wa_bipush C (v := (-2)) dX8_best_10 (by decide) ?_
    refine wa_callVi C lq_0 sh_0 rfl s_X8_59 i_X8_refuse e_X8_refuse dX8_best_12 (ok_X8_refuse h) rfl rfl (Nat.le_of_ble_eq_true rfl) (by rw [hd]; decide) (fun v1 g1 h => ?_)
    exact wa_iret C hv rfl dX8_best_15 h
  refine wa_if_lt C (tgt := 9) dX8_best_1 (by decide) h (fun h => ?_) (fun h => ?_)
  · exact WA.weak (hJ9  h) ⟨rfl, trivial⟩
  · refine wa_iload_n C (i := 1) dX8_best_4 rfl rfl ?_
    refine wa_iconst C (v := 2) dX8_best_5 (by decide) ?_
    refine wa_icmp_le C (tgt := 16) dX8_best_6 (by decide) h (fun h => ?_) (fun h => ?_)
    · refine wa_aload_n C (i := 0) dX8_best_16 rfl rfl ?_
      refine wa_getR C (j := 7) lq_0 sh_0 rfl in_X8 (by decide) rfl f_X8_51 dX8_best_17 ?_
      refine wa_callVi C lq_61 sh_61 rfl s_X8_270 i_X7_bestSet e_X7_bestSet dX8_best_20 (ok_X7_bestSet h) rfl rfl (Nat.le_of_ble_eq_true rfl) (by rw [hd]; decide) (fun v2 g2 h => ?_)
      refine wa_istore_n C (i := 2) dX8_best_23 rfl (by rw [hn]; decide) rfl rfl ?_
      refine wa_iload_n C (i := 1) dX8_best_24 rfl rfl ?_
      refine wa_if_ne C (tgt := 30) dX8_best_25 (by decide) h (fun h => ?_) (fun h => ?_)
      · refine wa_iload_n C (i := 2) dX8_best_28 rfl rfl ?_
        exact wa_iret C hv rfl dX8_best_29 h
      · refine wa_iload_n C (i := 1) dX8_best_30 rfl rfl ?_
        refine wa_iconst C (v := 1) dX8_best_31 (by decide) ?_
        refine wa_icmp_ne C (tgt := 46) dX8_best_32 (by decide) h (fun h => ?_) (fun h => ?_)
        · refine wa_aload_n C (i := 0) dX8_best_35 rfl rfl ?_
          refine wa_getR C (j := 7) lq_0 sh_0 rfl in_X8 (by decide) rfl f_X8_51 dX8_best_36 ?_
          refine wa_iload_n C (i := 2) dX8_best_39 rfl rfl ?_
          refine wa_callVi C lq_61 sh_61 rfl s_X8_274 i_X7_lettersOf e_X7_lettersOf dX8_best_40 (ok_X7_lettersOf h) rfl rfl (Nat.le_of_ble_eq_true rfl) (by rw [hd]; decide) (fun v4 g4 h => ?_)
          refine wa_goto C (tgt := 54) dX8_best_43 (by decide) ?_
          exact wa_iret C hv rfl dX8_best_54 h
        · refine wa_aload_n C (i := 0) dX8_best_46 rfl rfl ?_
          refine wa_getR C (j := 7) lq_0 sh_0 rfl in_X8 (by decide) rfl f_X8_51 dX8_best_47 ?_
          refine wa_iload_n C (i := 2) dX8_best_50 rfl rfl ?_
          refine wa_callVi C lq_61 sh_61 rfl s_X8_277 i_X7_hoursOf e_X7_hoursOf dX8_best_51 (ok_X7_hoursOf h) rfl rfl (Nat.le_of_ble_eq_true rfl) (by rw [hd]; decide) (fun v3 g3 h => ?_)
          exact wa_iret C hv rfl dX8_best_54 h
    · exact WA.weak (hJ9  h) ⟨rfl, trivial⟩

set_option maxRecDepth 20000 in
theorem ok_X8_put {l : Launch} {E : fp_E} {x1 : Int32} {g : fp_G} {K : Int32 → fp_G → Prop} (h : w_X8_put x1 g K) : fp_M l E yX8_put cX8_put 2 ((Option.some Jvm.ClassFile.FieldType.int)) false 2 [.ref 0, .int x1] g K := by
  unfold w_X8_put at h
  refine fp_enter rfl [some (.ref 0), some (.int x1)] (Nat.le_of_ble_eq_true rfl) (fun q hq => hq) (fun Z hE hl hv hK hn hd C => ?_)
  subst hE hl hK
  refine wa_iload_n C (i := 1) dX8_put_0 rfl rfl ?_
  refine wa_bipush C (v := (-128)) dX8_put_1 (by decide) ?_
  refine wa_icmp_ge C (tgt := 13) dX8_put_3 (by decide) h (fun h => ?_) (fun h => ?_)
  · refine wa_iload_n C (i := 1) dX8_put_13 rfl rfl ?_
    refine wa_bipush C (v := 127) dX8_put_14 (by decide) ?_
    refine fp_k0 (Q := WA Z 31 [some (.ref 0), none] [] g) h (fun  h => ?_) (fun J31 hJ31 h => ?_)
    · refine wa_aload_n C (i := 0) dX8_put_31 rfl rfl ?_
      refine wa_bipush C (v := (-6)) dX8_put_32 (by decide) ?_
      refine wa_callVi C lq_0 sh_0 rfl s_X8_59 i_X8_refuse e_X8_refuse dX8_put_34 (ok_X8_refuse h) rfl rfl (Nat.le_of_ble_eq_true rfl) (by rw [hd]; decide) (fun v1 g1 h => ?_)
      exact wa_iret C hv rfl dX8_put_37 h
    refine wa_icmp_gt C (tgt := 31) dX8_put_16 (by decide) h (fun h => ?_) (fun h => ?_)
    · exact WA.weak (hJ31  h) ⟨rfl, trivial⟩
    · refine wa_aload_n C (i := 0) dX8_put_19 rfl rfl ?_
      refine wa_getR C (j := 7) lq_0 sh_0 rfl in_X8 (by decide) rfl f_X8_51 dX8_put_20 ?_
      refine wa_getI C (j := 6) lq_61 sh_61 rfl in_X7 (by decide) rfl f_X8_280 dX8_put_23 ?_
      refine wa_bipush C (v := 12) dX8_put_26 (by decide) ?_
      refine wa_icmp_lt C (tgt := 38) dX8_put_28 (by decide) h (fun h => ?_) (fun h => ?_)
      · refine wa_aload_n C (i := 0) dX8_put_38 rfl rfl ?_
        refine wa_getR C (j := 7) lq_0 sh_0 rfl in_X8 (by decide) rfl f_X8_51 dX8_put_39 ?_
        refine wa_iload_n C (i := 1) dX8_put_42 rfl rfl ?_
        refine wa_callVi C lq_61 sh_61 rfl s_X8_283 i_X7_addToRow e_X7_addToRow dX8_put_43 (ok_X7_addToRow h) rfl rfl (Nat.le_of_ble_eq_true rfl) (by rw [hd]; decide) (fun v2 g2 h => ?_)
        exact wa_iret C hv rfl dX8_put_46 h
      · exact WA.weak (hJ31  h) ⟨rfl, trivial⟩
  · refine wa_aload_n C (i := 0) dX8_put_6 rfl rfl ?_
    refine wa_bipush C (v := (-4)) dX8_put_7 (by decide) ?_
    refine wa_callVi C lq_0 sh_0 rfl s_X8_59 i_X8_refuse e_X8_refuse dX8_put_9 (ok_X8_refuse h) rfl rfl (Nat.le_of_ble_eq_true rfl) (by rw [hd]; decide) (fun v3 g3 h => ?_)
    exact wa_iret C hv rfl dX8_put_12 h

set_option maxRecDepth 20000 in
theorem ok_X8_judge {l : Launch} {E : fp_E} {x1 : Int32} {g : fp_G} {K : Int32 → fp_G → Prop} (h : w_X8_judge x1 g K) : fp_M l E yX8_judge cX8_judge 4 ((Option.some Jvm.ClassFile.FieldType.int)) false 6 [.ref 0, .int x1] g K := by
  unfold w_X8_judge at h
  refine fp_enter rfl [some (.ref 0), some (.int x1), none, none] (Nat.le_of_ble_eq_true rfl) (fun q hq => hq) (fun Z hE hl hv hK hn hd C => ?_)
  subst hE hl hK
  refine wa_iload_n C (i := 1) dX8_judge_0 rfl rfl ?_
  refine fp_k0 (Q := WA Z 16 [some (.ref 0), some (.int x1), none, none] [] g) h (fun  h => ?_) (fun J16 hJ16 h => ?_)
  · refine wa_aload_n C (i := 0) dX8_judge_16 rfl rfl ?_
    refine wa_getR C (j := 7) lq_0 sh_0 rfl in_X8 (by decide) rfl f_X8_51 dX8_judge_17 ?_
    refine wa_callVi C lq_61 sh_61 rfl s_X8_286 i_X7_rowMade e_X7_rowMade dX8_judge_20 (ok_X7_rowMade h) rfl rfl (Nat.le_of_ble_eq_true rfl) (by rw [hd]; decide) (fun v1 g1 h => ?_)
    refine wa_istore_n C (i := 2) dX8_judge_23 rfl (by rw [hn]; decide) rfl rfl ?_
    refine wa_iload_n C (i := 1) dX8_judge_24 rfl rfl ?_
    refine wa_if_ne C (tgt := 46) dX8_judge_25 (by decide) h (fun h => ?_) (fun h => ?_)
    · refine wa_iload_n C (i := 2) dX8_judge_28 rfl rfl ?_
      refine wa_aload_n C (i := 0) dX8_judge_29 rfl rfl ?_
      refine wa_getR C (j := 7) lq_0 sh_0 rfl in_X8 (by decide) rfl f_X8_51 dX8_judge_30 ?_
      refine wa_getI C (j := 6) lq_61 sh_61 rfl in_X7 (by decide) rfl f_X8_280 dX8_judge_33 ?_
      refine wa_icmp_ge C (tgt := 43) dX8_judge_36 (by decide) h (fun h => ?_) (fun h => ?_)
      · refine wa_bipush C (v := (-9)) dX8_judge_43 (by decide) ?_
        exact wa_iret C hv rfl dX8_judge_45 h
      · refine wa_iload_n C (i := 2) dX8_judge_39 rfl rfl ?_
        refine wa_goto C (tgt := 45) dX8_judge_40 (by decide) ?_
        exact wa_iret C hv rfl dX8_judge_45 h
    · refine wa_aload_n C (i := 0) dX8_judge_46 rfl rfl ?_
      refine wa_getR C (j := 7) lq_0 sh_0 rfl in_X8 (by decide) rfl f_X8_51 dX8_judge_47 ?_
      refine wa_aload_n C (i := 0) dX8_judge_50 rfl rfl ?_
      refine wa_getR C (j := 7) lq_0 sh_0 rfl in_X8 (by decide) rfl f_X8_51 dX8_judge_51 ?_
      refine wa_callVi C lq_61 sh_61 rfl s_X8_270 i_X7_bestSet e_X7_bestSet dX8_judge_54 (ok_X7_bestSet h) rfl rfl (Nat.le_of_ble_eq_true rfl) (by rw [hd]; decide) (fun v2 g2 h => ?_)
      refine wa_callVi C lq_61 sh_61 rfl s_X8_274 i_X7_lettersOf e_X7_lettersOf dX8_judge_57 (ok_X7_lettersOf h) rfl rfl (Nat.le_of_ble_eq_true rfl) (by rw [hd]; decide) (fun v3 g3 h => ?_)
      refine wa_aload_n C (i := 0) dX8_judge_60 rfl rfl ?_
      refine wa_getR C (j := 7) lq_0 sh_0 rfl in_X8 (by decide) rfl f_X8_51 dX8_judge_61 ?_
      refine wa_iload_n C (i := 2) dX8_judge_64 rfl rfl ?_
      refine wa_callVi C lq_61 sh_61 rfl s_X8_289 i_X7_rowLetters e_X7_rowLetters dX8_judge_65 (ok_X7_rowLetters h) rfl rfl (Nat.le_of_ble_eq_true rfl) (by rw [hd]; decide) (fun v4 g4 h => ?_)
      refine wa_isub C dX8_judge_68 ?_
      refine wa_istore_n C (i := 3) dX8_judge_69 rfl (by rw [hn]; decide) rfl rfl ?_
      refine wa_aload_n C (i := 0) dX8_judge_70 rfl rfl ?_
      refine wa_getR C (j := 7) lq_0 sh_0 rfl in_X8 (by decide) rfl f_X8_51 dX8_judge_71 ?_
      refine wa_iconst C (v := 0) dX8_judge_74 (by decide) ?_
      refine wa_putI C (j := 6) lq_61 sh_61 rfl in_X7 (by decide) tyX7 tyX7_ok nmX7 rfl rfl rfl f_X8_280 dX8_judge_75 h (fun g5 h => ?_)
      refine wa_iload_n C (i := 3) dX8_judge_78 rfl rfl ?_
      exact wa_iret C hv rfl dX8_judge_79 h
  refine wa_if_eq C (tgt := 16) dX8_judge_1 (by decide) h (fun h => ?_) (fun h => ?_)
  · exact WA.weak (hJ16  h) ⟨rfl, ⟨rfl, trivial⟩⟩
  · refine wa_iload_n C (i := 1) dX8_judge_4 rfl rfl ?_
    refine wa_iconst C (v := 1) dX8_judge_5 (by decide) ?_
    refine wa_icmp_eq C (tgt := 16) dX8_judge_6 (by decide) h (fun h => ?_) (fun h => ?_)
    · exact WA.weak (hJ16  h) ⟨rfl, ⟨rfl, trivial⟩⟩
    · refine wa_aload_n C (i := 0) dX8_judge_9 rfl rfl ?_
      refine wa_bipush C (v := (-2)) dX8_judge_10 (by decide) ?_
      refine wa_callVi C lq_0 sh_0 rfl s_X8_59 i_X8_refuse e_X8_refuse dX8_judge_12 (ok_X8_refuse h) rfl rfl (Nat.le_of_ble_eq_true rfl) (by rw [hd]; decide) (fun v5 g6 h => ?_)
      exact wa_iret C hv rfl dX8_judge_15 h

set_option maxRecDepth 20000 in
theorem ok_X8_waiting_21 {Z : fp_Z} (C : fp_C Z cX8_waiting RX8 ((Option.some Jvm.ClassFile.FieldType.int))) (hv : fp_V Z false) (hn : Z.2.2.2.2.1 = 4) (hd : Z.2.2.2.2.2.1 = 2) {x1 : Int32} : ∀ (n : Nat) (x2 : Int32) (x3 : Int32) (g : fp_G), w_X8_waiting_21 n x1 x2 x3 g Z.2.2.2.1 → WA Z 21 [some (.ref 0), some (.int x1), some (.int x2), some (.int x3)] [] g := by
  intro n
  induction n with
  | zero => intro x2 x3 g h; exact h.elim
  | succ n ih =>
    intro x2 x3 g h
    rw [w_X8_waiting_21] at h
    refine wa_iload_n C (i := 3) dX8_waiting_21 rfl rfl ?_
    refine wa_aload_n C (i := 0) dX8_waiting_22 rfl rfl ?_
    refine wa_getR C (j := 4) lq_0 sh_0 rfl in_X8 (by decide) rfl f_X8_35 dX8_waiting_23 ?_
    refine wa_getI C (j := 5) lq_37 sh_37 rfl in_X1 (by decide) rfl f_X8_157 dX8_waiting_26 ?_
    refine wa_icmp_ge C (tgt := 66) dX8_waiting_29 (by decide) h (fun h => ?_) (fun h => ?_)
    · refine wa_iload_n C (i := 2) dX8_waiting_66 rfl rfl ?_
      exact wa_iret C hv rfl dX8_waiting_67 h
    · refine wa_aload_n C (i := 0) dX8_waiting_32 rfl rfl ?_
      refine wa_getR C (j := 5) lq_0 sh_0 rfl in_X8 (by decide) rfl f_X8_41 dX8_waiting_33 ?_
      refine wa_getR C (j := 0) lq_43 sh_43 rfl in_X0 (by decide) rfl f_X8_208 dX8_waiting_36 ?_
      refine wa_iload_n C (i := 3) dX8_waiting_39 rfl rfl ?_
      refine wa_iald C lq_44 sh_44 dX8_waiting_40 h (fun v2 h => ?_)
      refine fp_k1 (Q := fun x2j60 => WA Z 60 [some (.ref 0), some (.int x1), some (.int x2j60), some (.int x3)] [] g) h (fun x2j60 h => ?_) (fun J60 hJ60 h => ?_)
      · refine wa_iinc C (i := 3) dX8_waiting_60 rfl (fp_inc1 _) (by rw [hn]; decide) rfl rfl ?_
        refine wa_goto C (tgt := 21) dX8_waiting_63 (by decide) ?_
        exact WA.weak (ih _ _ _ h) ⟨rfl, ⟨rfl, ⟨rfl, ⟨rfl, trivial⟩⟩⟩⟩
      refine wa_if_ne C (tgt := 60) dX8_waiting_41 (by decide) h (fun h => ?_) (fun h => ?_)
      · refine wa_aload_n C (i := 0) dX8_waiting_44 rfl rfl ?_
        refine wa_getR C (j := 5) lq_0 sh_0 rfl in_X8 (by decide) rfl f_X8_41 dX8_waiting_45 ?_
        refine wa_getR C (j := 1) lq_43 sh_43 rfl in_X0 (by decide) rfl f_X8_192 dX8_waiting_48 ?_
        refine wa_iload_n C (i := 3) dX8_waiting_51 rfl rfl ?_
        refine wa_iald C lq_45 sh_45 dX8_waiting_52 h (fun v3 h => ?_)
        refine wa_iload_n C (i := 1) dX8_waiting_53 rfl rfl ?_
        refine wa_icmp_ne C (tgt := 60) dX8_waiting_54 (by decide) h (fun h => ?_) (fun h => ?_)
        · refine wa_iinc C (i := 2) dX8_waiting_57 rfl (fp_inc1 _) (by rw [hn]; decide) rfl rfl ?_
          exact WA.weak (hJ60 _ h) ⟨rfl, ⟨rfl, ⟨rfl, ⟨rfl, trivial⟩⟩⟩⟩
        · exact WA.weak (hJ60 _ h) ⟨rfl, ⟨rfl, ⟨rfl, ⟨rfl, trivial⟩⟩⟩⟩
      · exact WA.weak (hJ60 _ h) ⟨rfl, ⟨rfl, ⟨rfl, ⟨rfl, trivial⟩⟩⟩⟩

set_option maxRecDepth 20000 in
theorem ok_X8_waiting {l : Launch} {E : fp_E} {x1 : Int32} {g : fp_G} {K : Int32 → fp_G → Prop} (h : w_X8_waiting x1 g K) : fp_M l E yX8_waiting cX8_waiting 4 ((Option.some Jvm.ClassFile.FieldType.int)) false 2 [.ref 0, .int x1] g K := by
  unfold w_X8_waiting at h
  refine fp_enter rfl [some (.ref 0), some (.int x1), none, none] (Nat.le_of_ble_eq_true rfl) (fun q hq => hq) (fun Z hE hl hv hK hn hd C => ?_)
  subst hE hl hK
  refine wa_aload_n C (i := 0) dX8_waiting_0 rfl rfl ?_
  refine wa_getR C (j := 1) lq_0 sh_0 rfl in_X8 (by decide) rfl f_X8_20 dX8_waiting_1 ?_
  refine wa_iload_n C (i := 1) dX8_waiting_4 rfl rfl ?_
  refine wa_callVi C lq_6 sh_6 rfl s_X8_73 i_X2_hasOffice e_X2_hasOffice dX8_waiting_5 (ok_X2_hasOffice h) rfl rfl (Nat.le_of_ble_eq_true rfl) (by rw [hd]; decide) (fun v1 g1 h => ?_)
  refine wa_if_ne C (tgt := 17) dX8_waiting_8 (by decide) h (fun h => ?_) (fun h => ?_)
  · refine wa_aload_n C (i := 0) dX8_waiting_11 rfl rfl ?_
    refine wa_iconst C (v := (-1)) dX8_waiting_12 (by decide) ?_
    refine wa_callVi C lq_0 sh_0 rfl s_X8_59 i_X8_refuse e_X8_refuse dX8_waiting_13 (ok_X8_refuse h) rfl rfl (Nat.le_of_ble_eq_true rfl) (by rw [hd]; decide) (fun v4 g2 h => ?_)
    exact wa_iret C hv rfl dX8_waiting_16 h
  · refine wa_iconst C (v := 0) dX8_waiting_17 (by decide) ?_
    refine wa_istore_n C (i := 2) dX8_waiting_18 rfl (by rw [hn]; decide) rfl rfl ?_
    refine wa_iconst C (v := 0) dX8_waiting_19 (by decide) ?_
    refine wa_istore_n C (i := 3) dX8_waiting_20 rfl (by rw [hn]; decide) rfl rfl ?_
    obtain ⟨n21, h⟩ := h
    exact WA.weak (ok_X8_waiting_21 C hv hn hd n21 _ _ _ h) ⟨rfl, ⟨rfl, ⟨rfl, ⟨rfl, trivial⟩⟩⟩⟩

set_option maxRecDepth 20000 in
theorem ok_X8_count {l : Launch} {E : fp_E} {x1 : Int32} {g : fp_G} {K : Int32 → fp_G → Prop} (h : w_X8_count x1 g K) : fp_M l E yX8_count cX8_count 2 ((Option.some Jvm.ClassFile.FieldType.int)) false 2 [.ref 0, .int x1] g K := by
  unfold w_X8_count at h
  refine fp_enter rfl [some (.ref 0), some (.int x1)] (Nat.le_of_ble_eq_true rfl) (fun q hq => hq) (fun Z hE hl hv hK hn hd C => ?_)
  subst hE hl hK
  refine wa_iload_n C (i := 1) dX8_count_0 rfl rfl ?_
  refine fp_sw h (fun e0 h => ?_) (fun e0 h => ?_)
  · refine wa_tsIn C (tgt := 92) dX8_count_1 e0 (by decide) (by decide) rfl (by decide) ?_
    refine wa_aload_n C (i := 0) dX8_count_92 rfl rfl ?_
    refine wa_getI C (j := 9) lq_0 sh_0 rfl in_X8 (by decide) rfl f_X8_95 dX8_count_93 ?_
    exact wa_iret C hv rfl dX8_count_96 h
  refine fp_sw h (fun e1 h => ?_) (fun e1 h => ?_)
  · refine wa_tsIn C (tgt := 97) dX8_count_1 e1 (by decide) (by decide) rfl (by decide) ?_
    refine wa_aload_n C (i := 0) dX8_count_97 rfl rfl ?_
    refine wa_getR C (j := 1) lq_0 sh_0 rfl in_X8 (by decide) rfl f_X8_20 dX8_count_98 ?_
    refine wa_getI C (j := 3) lq_6 sh_6 rfl in_X2 (by decide) rfl f_X8_63 dX8_count_101 ?_
    exact wa_iret C hv rfl dX8_count_104 h
  refine fp_sw h (fun e2 h => ?_) (fun e2 h => ?_)
  · refine wa_tsIn C (tgt := 105) dX8_count_1 e2 (by decide) (by decide) rfl (by decide) ?_
    refine wa_aload_n C (i := 0) dX8_count_105 rfl rfl ?_
    refine wa_getR C (j := 1) lq_0 sh_0 rfl in_X8 (by decide) rfl f_X8_20 dX8_count_106 ?_
    refine wa_getI C (j := 9) lq_6 sh_6 rfl in_X2 (by decide) rfl f_X8_85 dX8_count_109 ?_
    exact wa_iret C hv rfl dX8_count_112 h
  refine fp_sw h (fun e3 h => ?_) (fun e3 h => ?_)
  · refine wa_tsIn C (tgt := 113) dX8_count_1 e3 (by decide) (by decide) rfl (by decide) ?_
    refine wa_aload_n C (i := 0) dX8_count_113 rfl rfl ?_
    refine wa_getR C (j := 2) lq_0 sh_0 rfl in_X8 (by decide) rfl f_X8_25 dX8_count_114 ?_
    refine wa_getI C (j := 4) lq_18 sh_18 rfl in_X6 (by decide) rfl f_X8_121 dX8_count_117 ?_
    exact wa_iret C hv rfl dX8_count_120 h
  refine fp_sw h (fun e4 h => ?_) (fun e4 h => ?_)
  · refine wa_tsIn C (tgt := 121) dX8_count_1 e4 (by decide) (by decide) rfl (by decide) ?_
    refine wa_aload_n C (i := 0) dX8_count_121 rfl rfl ?_
    refine wa_getR C (j := 2) lq_0 sh_0 rfl in_X8 (by decide) rfl f_X8_25 dX8_count_122 ?_
    refine wa_getI C (j := 7) lq_18 sh_18 rfl in_X6 (by decide) rfl f_X8_133 dX8_count_125 ?_
    exact wa_iret C hv rfl dX8_count_128 h
  refine fp_sw h (fun e5 h => ?_) (fun e5 h => ?_)
  · refine wa_tsIn C (tgt := 129) dX8_count_1 e5 (by decide) (by decide) rfl (by decide) ?_
    refine wa_aload_n C (i := 0) dX8_count_129 rfl rfl ?_
    refine wa_getR C (j := 4) lq_0 sh_0 rfl in_X8 (by decide) rfl f_X8_35 dX8_count_130 ?_
    refine wa_getI C (j := 5) lq_37 sh_37 rfl in_X1 (by decide) rfl f_X8_157 dX8_count_133 ?_
    exact wa_iret C hv rfl dX8_count_136 h
  refine fp_sw h (fun e6 h => ?_) (fun e6 h => ?_)
  · refine wa_tsIn C (tgt := 137) dX8_count_1 e6 (by decide) (by decide) rfl (by decide) ?_
    refine wa_aload_n C (i := 0) dX8_count_137 rfl rfl ?_
    refine wa_getR C (j := 5) lq_0 sh_0 rfl in_X8 (by decide) rfl f_X8_41 dX8_count_138 ?_
    refine wa_iconst C (v := 2) dX8_count_141 (by decide) ?_
    refine wa_aload_n C (i := 0) dX8_count_142 rfl rfl ?_
    refine wa_getR C (j := 4) lq_0 sh_0 rfl in_X8 (by decide) rfl f_X8_35 dX8_count_143 ?_
    refine wa_getI C (j := 5) lq_37 sh_37 rfl in_X1 (by decide) rfl f_X8_157 dX8_count_146 ?_
    refine wa_callVi C lq_43 sh_43 rfl s_X8_292 i_X0_howMany e_X0_howMany dX8_count_149 (ok_X0_howMany isC_43 h) rfl rfl (Nat.le_of_ble_eq_true rfl) (by rw [hd]; decide) (fun v1 g1 h => ?_)
    exact wa_iret C hv rfl dX8_count_152 h
  refine fp_sw h (fun e7 h => ?_) (fun e7 h => ?_)
  · refine wa_tsIn C (tgt := 153) dX8_count_1 e7 (by decide) (by decide) rfl (by decide) ?_
    refine wa_aload_n C (i := 0) dX8_count_153 rfl rfl ?_
    refine wa_getR C (j := 5) lq_0 sh_0 rfl in_X8 (by decide) rfl f_X8_41 dX8_count_154 ?_
    refine wa_iconst C (v := 3) dX8_count_157 (by decide) ?_
    refine wa_aload_n C (i := 0) dX8_count_158 rfl rfl ?_
    refine wa_getR C (j := 4) lq_0 sh_0 rfl in_X8 (by decide) rfl f_X8_35 dX8_count_159 ?_
    refine wa_getI C (j := 5) lq_37 sh_37 rfl in_X1 (by decide) rfl f_X8_157 dX8_count_162 ?_
    refine wa_callVi C lq_43 sh_43 rfl s_X8_292 i_X0_howMany e_X0_howMany dX8_count_165 (ok_X0_howMany isC_43 h) rfl rfl (Nat.le_of_ble_eq_true rfl) (by rw [hd]; decide) (fun v2 g2 h => ?_)
    exact wa_iret C hv rfl dX8_count_168 h
  refine fp_sw h (fun e8 h => ?_) (fun e8 h => ?_)
  · refine wa_tsIn C (tgt := 169) dX8_count_1 e8 (by decide) (by decide) rfl (by decide) ?_
    refine wa_aload_n C (i := 0) dX8_count_169 rfl rfl ?_
    refine wa_getR C (j := 5) lq_0 sh_0 rfl in_X8 (by decide) rfl f_X8_41 dX8_count_170 ?_
    refine wa_iconst C (v := 4) dX8_count_173 (by decide) ?_
    refine wa_aload_n C (i := 0) dX8_count_174 rfl rfl ?_
    refine wa_getR C (j := 4) lq_0 sh_0 rfl in_X8 (by decide) rfl f_X8_35 dX8_count_175 ?_
    refine wa_getI C (j := 5) lq_37 sh_37 rfl in_X1 (by decide) rfl f_X8_157 dX8_count_178 ?_
    refine wa_callVi C lq_43 sh_43 rfl s_X8_292 i_X0_howMany e_X0_howMany dX8_count_181 (ok_X0_howMany isC_43 h) rfl rfl (Nat.le_of_ble_eq_true rfl) (by rw [hd]; decide) (fun v3 g3 h => ?_)
    exact wa_iret C hv rfl dX8_count_184 h
  refine fp_sw h (fun e9 h => ?_) (fun e9 h => ?_)
  · refine wa_tsIn C (tgt := 185) dX8_count_1 e9 (by decide) (by decide) rfl (by decide) ?_
    refine wa_aload_n C (i := 0) dX8_count_185 rfl rfl ?_
    refine wa_getR C (j := 5) lq_0 sh_0 rfl in_X8 (by decide) rfl f_X8_41 dX8_count_186 ?_
    refine wa_aload_n C (i := 0) dX8_count_189 rfl rfl ?_
    refine wa_getR C (j := 4) lq_0 sh_0 rfl in_X8 (by decide) rfl f_X8_35 dX8_count_190 ?_
    refine wa_getI C (j := 5) lq_37 sh_37 rfl in_X1 (by decide) rfl f_X8_157 dX8_count_193 ?_
    refine wa_callVi C lq_43 sh_43 rfl s_X8_295 i_X0_howManySpoilt e_X0_howManySpoilt dX8_count_196 (ok_X0_howManySpoilt isC_43 h) rfl rfl (Nat.le_of_ble_eq_true rfl) (by rw [hd]; decide) (fun v4 g4 h => ?_)
    exact wa_iret C hv rfl dX8_count_199 h
  refine fp_sw h (fun e10 h => ?_) (fun e10 h => ?_)
  · refine wa_tsIn C (tgt := 200) dX8_count_1 e10 (by decide) (by decide) rfl (by decide) ?_
    refine wa_aload_n C (i := 0) dX8_count_200 rfl rfl ?_
    refine wa_getR C (j := 3) lq_0 sh_0 rfl in_X8 (by decide) rfl f_X8_30 dX8_count_201 ?_
    refine wa_getI C (j := 1) lq_29 sh_29 rfl in_X3 (by decide) rfl f_X8_169 dX8_count_204 ?_
    exact wa_iret C hv rfl dX8_count_207 h
  refine fp_sw h (fun e11 h => ?_) (fun e11 h => ?_)
  · refine wa_tsIn C (tgt := 208) dX8_count_1 e11 (by decide) (by decide) rfl (by decide) ?_
    refine wa_aload_n C (i := 0) dX8_count_208 rfl rfl ?_
    refine wa_getR C (j := 8) lq_0 sh_0 rfl in_X8 (by decide) rfl f_X8_55 dX8_count_209 ?_
    refine wa_iload_n C (i := 1) dX8_count_212 rfl rfl ?_
    refine wa_bipush C (v := 10) dX8_count_213 (by decide) ?_
    refine wa_isub C dX8_count_215 ?_
    refine wa_iald C lq_1 sh_1 dX8_count_216 h (fun v5 h => ?_)
    exact wa_iret C hv rfl dX8_count_217 h
  refine fp_sw h (fun e12 h => ?_) (fun e12 h => ?_)
  · refine wa_tsIn C (tgt := 208) dX8_count_1 e12 (by decide) (by decide) rfl (by decide) ?_
    refine wa_aload_n C (i := 0) dX8_count_208 rfl rfl ?_
    refine wa_getR C (j := 8) lq_0 sh_0 rfl in_X8 (by decide) rfl f_X8_55 dX8_count_209 ?_
    refine wa_iload_n C (i := 1) dX8_count_212 rfl rfl ?_
    refine wa_bipush C (v := 10) dX8_count_213 (by decide) ?_
    refine wa_isub C dX8_count_215 ?_
    refine wa_iald C lq_1 sh_1 dX8_count_216 h (fun v6 h => ?_)
    exact wa_iret C hv rfl dX8_count_217 h
  refine fp_sw h (fun e13 h => ?_) (fun e13 h => ?_)
  · refine wa_tsIn C (tgt := 208) dX8_count_1 e13 (by decide) (by decide) rfl (by decide) ?_
    refine wa_aload_n C (i := 0) dX8_count_208 rfl rfl ?_
    refine wa_getR C (j := 8) lq_0 sh_0 rfl in_X8 (by decide) rfl f_X8_55 dX8_count_209 ?_
    refine wa_iload_n C (i := 1) dX8_count_212 rfl rfl ?_
    refine wa_bipush C (v := 10) dX8_count_213 (by decide) ?_
    refine wa_isub C dX8_count_215 ?_
    refine wa_iald C lq_1 sh_1 dX8_count_216 h (fun v7 h => ?_)
    exact wa_iret C hv rfl dX8_count_217 h
  refine fp_sw h (fun e14 h => ?_) (fun e14 h => ?_)
  · refine wa_tsIn C (tgt := 208) dX8_count_1 e14 (by decide) (by decide) rfl (by decide) ?_
    refine wa_aload_n C (i := 0) dX8_count_208 rfl rfl ?_
    refine wa_getR C (j := 8) lq_0 sh_0 rfl in_X8 (by decide) rfl f_X8_55 dX8_count_209 ?_
    refine wa_iload_n C (i := 1) dX8_count_212 rfl rfl ?_
    refine wa_bipush C (v := 10) dX8_count_213 (by decide) ?_
    refine wa_isub C dX8_count_215 ?_
    refine wa_iald C lq_1 sh_1 dX8_count_216 h (fun v8 h => ?_)
    exact wa_iret C hv rfl dX8_count_217 h
  refine fp_sw h (fun e15 h => ?_) (fun e15 h => ?_)
  · refine wa_tsIn C (tgt := 208) dX8_count_1 e15 (by decide) (by decide) rfl (by decide) ?_
    refine wa_aload_n C (i := 0) dX8_count_208 rfl rfl ?_
    refine wa_getR C (j := 8) lq_0 sh_0 rfl in_X8 (by decide) rfl f_X8_55 dX8_count_209 ?_
    refine wa_iload_n C (i := 1) dX8_count_212 rfl rfl ?_
    refine wa_bipush C (v := 10) dX8_count_213 (by decide) ?_
    refine wa_isub C dX8_count_215 ?_
    refine wa_iald C lq_1 sh_1 dX8_count_216 h (fun v9 h => ?_)
    exact wa_iret C hv rfl dX8_count_217 h
  refine fp_sw h (fun e16 h => ?_) (fun e16 h => ?_)
  · refine wa_tsIn C (tgt := 208) dX8_count_1 e16 (by decide) (by decide) rfl (by decide) ?_
    refine wa_aload_n C (i := 0) dX8_count_208 rfl rfl ?_
    refine wa_getR C (j := 8) lq_0 sh_0 rfl in_X8 (by decide) rfl f_X8_55 dX8_count_209 ?_
    refine wa_iload_n C (i := 1) dX8_count_212 rfl rfl ?_
    refine wa_bipush C (v := 10) dX8_count_213 (by decide) ?_
    refine wa_isub C dX8_count_215 ?_
    refine wa_iald C lq_1 sh_1 dX8_count_216 h (fun v10 h => ?_)
    exact wa_iret C hv rfl dX8_count_217 h
  refine fp_sw h (fun e17 h => ?_) (fun e17 h => ?_)
  · refine wa_tsIn C (tgt := 218) dX8_count_1 e17 (by decide) (by decide) rfl (by decide) ?_
    refine wa_aload_n C (i := 0) dX8_count_218 rfl rfl ?_
    refine wa_getR C (j := 7) lq_0 sh_0 rfl in_X8 (by decide) rfl f_X8_51 dX8_count_219 ?_
    refine wa_getI C (j := 6) lq_61 sh_61 rfl in_X7 (by decide) rfl f_X8_280 dX8_count_222 ?_
    exact wa_iret C hv rfl dX8_count_225 h
  refine fp_sw h (fun e18 h => ?_) (fun e18 h => ?_)
  · refine wa_tsIn C (tgt := 226) dX8_count_1 e18 (by decide) (by decide) rfl (by decide) ?_
    refine wa_aload_n C (i := 0) dX8_count_226 rfl rfl ?_
    refine wa_getR C (j := 3) lq_0 sh_0 rfl in_X8 (by decide) rfl f_X8_30 dX8_count_227 ?_
    refine wa_getI C (j := 6) lq_29 sh_29 rfl in_X3 (by decide) rfl f_X8_181 dX8_count_230 ?_
    exact wa_iret C hv rfl dX8_count_233 h
  have z0 := fp_ne (k := 0) (by decide) e0
  have z1 := fp_ne (k := 1) (by decide) e1
  have z2 := fp_ne (k := 2) (by decide) e2
  have z3 := fp_ne (k := 3) (by decide) e3
  have z4 := fp_ne (k := 4) (by decide) e4
  have z5 := fp_ne (k := 5) (by decide) e5
  have z6 := fp_ne (k := 6) (by decide) e6
  have z7 := fp_ne (k := 7) (by decide) e7
  have z8 := fp_ne (k := 8) (by decide) e8
  have z9 := fp_ne (k := 9) (by decide) e9
  have z10 := fp_ne (k := 10) (by decide) e10
  have z11 := fp_ne (k := 11) (by decide) e11
  have z12 := fp_ne (k := 12) (by decide) e12
  have z13 := fp_ne (k := 13) (by decide) e13
  have z14 := fp_ne (k := 14) (by decide) e14
  have z15 := fp_ne (k := 15) (by decide) e15
  have z16 := fp_ne (k := 16) (by decide) e16
  have z17 := fp_ne (k := 17) (by decide) e17
  have z18 := fp_ne (k := 18) (by decide) e18
  refine wa_tsOut C (tgt := 234) dX8_count_1 (by omega) (by decide) ?_
  refine wa_bipush C (v := (-9)) dX8_count_234 (by decide) ?_
  exact wa_iret C hv rfl dX8_count_236 h

set_option maxRecDepth 20000 in
theorem ok_X9_no {l : Launch} {E : fp_E} {x1 : Int32} {g : fp_G} {K : Int32 → fp_G → Prop} (h : w_X9_no x1 g K) : fp_M l E yX9_no cX9_no 2 ((Option.some Jvm.ClassFile.FieldType.int)) false 1 [.ref 67, .int x1] g K := by
  unfold w_X9_no at h
  refine fp_enter rfl [some (.ref 67), some (.int x1)] (Nat.le_of_ble_eq_true rfl) (fun q hq => hq) (fun Z hE hl hv hK hn hd C => ?_)
  subst hE hl hK
  refine wa_aload_n C (i := 0) dX9_no_0 rfl rfl ?_
  refine wa_getR C (j := 0) lq_67 sh_67 rfl in_X9 (by decide) rfl f_X9_7 dX9_no_1 ?_
  refine wa_iload_n C (i := 1) dX9_no_4 rfl rfl ?_
  refine wa_ineg C dX9_no_5 ?_
  refine wa_dup2 C dX9_no_6 rfl rfl ?_
  refine wa_iald C lq_68 sh_68 dX9_no_7 h (fun v1 h => ?_)
  refine wa_iconst C (v := 1) dX9_no_8 (by decide) ?_
  refine wa_iadd C dX9_no_9 ?_
  refine wa_iast C lq_68 sh_68 dX9_no_10 h (fun g1 h => ?_)
  refine wa_iload_n C (i := 1) dX9_no_11 rfl rfl ?_
  exact wa_iret C hv rfl dX9_no_12 h

set_option maxRecDepth 20000 in
theorem ok_X9_isIn {l : Launch} {E : fp_E} {x0 : Int64} {x2 : Int64} {x4 : Int64} {g : fp_G} {K : Int32 → fp_G → Prop} (h : w_X9_isIn x0 x2 x4 g K) : fp_M l E yX9_isIn cX9_isIn 6 ((Option.some Jvm.ClassFile.FieldType.boolean)) false 1 [.long x0, .long x2, .long x4] g K := by
  unfold w_X9_isIn at h
  refine fp_enter rfl [some (.long x0), none, some (.long x2), none, some (.long x4), none] (Nat.le_of_ble_eq_true rfl) (fun q hq => hq) (fun Z hE hl hv hK hn hd C => ?_)
  subst hE hl hK
  refine wa_lload_n C (i := 0) dX9_isIn_0 rfl rfl ?_
  refine wa_lload_n C (i := 2) dX9_isIn_1 rfl rfl ?_
  refine wa_lcmp C dX9_isIn_2 ?_
  refine fp_k0 (Q := WA Z 17 [none, none, none, none, none, none] [] g) h (fun  h => ?_) (fun J17 hJ17 h => ?_)
  · refine wa_iconst C (v := 0) dX9_isIn_17 (by decide) ?_
    exact wa_zret C hv rfl rfl dX9_isIn_18 h
  refine wa_if_lt C (tgt := 17) dX9_isIn_3 (by decide) h (fun h => ?_) (fun h => ?_)
  · exact WA.weak (hJ17  h) trivial
  · refine wa_lload_n C (i := 0) dX9_isIn_6 rfl rfl ?_
    refine wa_lload C dX9_isIn_7 rfl ?_
    refine wa_lcmp C dX9_isIn_9 ?_
    refine wa_if_gt C (tgt := 17) dX9_isIn_10 (by decide) h (fun h => ?_) (fun h => ?_)
    · exact WA.weak (hJ17  h) trivial
    · refine wa_iconst C (v := 1) dX9_isIn_13 (by decide) ?_
      refine wa_goto C (tgt := 18) dX9_isIn_14 (by decide) ?_
      exact wa_zret C hv rfl rfl dX9_isIn_18 h
