set_option maxRecDepth 20000 in
theorem ok_X8_is {l : Launch} {E : fp_E} {x1 : Int32} {x2 : Int32} {g : fp_G} {K : Int32 → fp_G → Prop} (h : w_X8_is x1 x2 g K) : fp_M l E yX8_is cX8_is 4 ((Option.some Jvm.ClassFile.FieldType.int)) false 2 [.ref 0, .int x1, .int x2] g K := by
  unfold w_X8_is at h
  refine fp_enter rfl [some (.ref 0), some (.int x1), some (.int x2), none] (Nat.le_of_ble_eq_true rfl) (fun q hq => hq) (fun Z hE hl hv hK hn hd C => ?_)
  subst hE hl hK
  refine wa_iload_n C (i := 1) dX8_is_0 rfl rfl ?_
  refine wa_callSi C s_X8_118 t_X8_isUnit dX8_is_1 (ok_X8_isUnit h) rfl rfl (Nat.le_of_ble_eq_true rfl) (by rw [hd]; decide) (fun v1 g1 h => ?_)
  refine fp_j1 (Q := fun z0j19 g2 => WA Z 19 [some (.ref 0), some (.int x1), some (.int x2), none] [.int z0j19] g2) h (fun z0j19 g2 h => ?_) (fun J19 hJ19 h => ?_)
  · refine wa_istore_n C (i := 3) dX8_is_19 rfl (by rw [hn]; decide) rfl rfl ?_
    refine wa_iload_n C (i := 3) dX8_is_20 rfl rfl ?_
    refine wa_if_ge C (tgt := 32) dX8_is_21 (by decide) h (fun h => ?_) (fun h => ?_)
    · refine wa_aload_n C (i := 0) dX8_is_32 rfl rfl ?_
      refine wa_getR C (j := 2) lq_0 sh_0 rfl in_X8 (by decide) rfl f_X8_25 dX8_is_33 ?_
      refine wa_iload_n C (i := 1) dX8_is_36 rfl rfl ?_
      refine wa_iload_n C (i := 2) dX8_is_37 rfl rfl ?_
      refine wa_iconst C (v := 0) dX8_is_38 (by decide) ?_
      refine wa_callVi C lq_18 sh_18 rfl s_X8_130 i_X6_unitAt e_X6_unitAt dX8_is_39 (ok_X6_unitAt h) rfl rfl (Nat.le_of_ble_eq_true rfl) (by rw [hd]; decide) (fun v2 g3 h => ?_)
      exact wa_iret C hv rfl dX8_is_42 h
    · refine wa_aload_n C (i := 0) dX8_is_24 rfl rfl ?_
      refine wa_iload_n C (i := 3) dX8_is_25 rfl rfl ?_
      refine wa_callVi C lq_0 sh_0 rfl s_X8_59 i_X8_refuse e_X8_refuse dX8_is_26 (ok_X8_refuse h) rfl rfl (Nat.le_of_ble_eq_true rfl) (by rw [hd]; decide) (fun v3 g4 h => ?_)
      refine wa_goto C (tgt := 42) dX8_is_29 (by decide) ?_
      exact wa_iret C hv rfl dX8_is_42 h
  refine wa_if_eq C (tgt := 18) dX8_is_4 (by decide) h (fun h => ?_) (fun h => ?_)
  · refine wa_iconst C (v := (-1)) dX8_is_18 (by decide) ?_
    exact WA.weak (hJ19 _ _ h) ⟨rfl, ⟨rfl, ⟨rfl, trivial⟩⟩⟩
  · refine wa_iload_n C (i := 2) dX8_is_7 rfl rfl ?_
    refine wa_iconst C (v := 0) dX8_is_8 (by decide) ?_
    refine wa_sipush C (v := 2000) dX8_is_9 (by decide) ?_
    refine wa_callSi C s_X8_77 t_X8_outside dX8_is_12 (ok_X8_outside h) rfl rfl (Nat.le_of_ble_eq_true rfl) (by rw [hd]; decide) (fun v4 g5 h => ?_)
    refine wa_goto C (tgt := 19) dX8_is_15 (by decide) ?_
    exact WA.weak (hJ19 _ _ h) ⟨rfl, ⟨rfl, ⟨rfl, trivial⟩⟩⟩

set_option maxRecDepth 20000 in
theorem ok_X8_list {l : Launch} {E : fp_E} {x1 : Int32} {x2 : Int32} {x3 : Int32} {g : fp_G} {K : Int32 → fp_G → Prop} (h : w_X8_list x1 x2 x3 g K) : fp_M l E yX8_list cX8_list 6 ((Option.some Jvm.ClassFile.FieldType.int)) false 3 [.ref 0, .int x1, .int x2, .int x3] g K := by
  unfold w_X8_list at h
  refine fp_enter rfl [some (.ref 0), some (.int x1), some (.int x2), some (.int x3), none, none] (Nat.le_of_ble_eq_true rfl) (fun q hq => hq) (fun Z hE hl hv hK hn hd C => ?_)
  subst hE hl hK
  refine wa_aload_n C (i := 0) dX8_list_0 rfl rfl ?_
  refine wa_getR C (j := 1) lq_0 sh_0 rfl in_X8 (by decide) rfl f_X8_20 dX8_list_1 ?_
  refine wa_iload_n C (i := 1) dX8_list_4 rfl rfl ?_
  refine wa_callVi C lq_6 sh_6 rfl s_X8_73 i_X2_hasOffice e_X2_hasOffice dX8_list_5 (ok_X2_hasOffice h) rfl rfl (Nat.le_of_ble_eq_true rfl) (by rw [hd]; decide) (fun v1 g1 h => ?_)
  refine fp_j1 (Q := fun z0j23 g2 => WA Z 23 [some (.ref 0), some (.int x1), some (.int x2), some (.int x3), none, none] [.int z0j23] g2) h (fun z0j23 g2 h => ?_) (fun J23 hJ23 h => ?_)
  · refine wa_istore C (i := 4) dX8_list_23 (by rw [hn]; decide) rfl rfl ?_
    refine wa_iload C dX8_list_25 rfl ?_
    refine fp_j1 (Q := fun z0j42 g3 => WA Z 42 [some (.ref 0), some (.int x1), some (.int x2), some (.int x3), none, none] [.int z0j42] g3) h (fun z0j42 g3 h => ?_) (fun J42 hJ42 h => ?_)
    · refine wa_istore C (i := 5) dX8_list_42 (by rw [hn]; decide) rfl rfl ?_
      refine wa_iload C dX8_list_44 rfl ?_
      refine wa_if_ge C (tgt := 58) dX8_list_46 (by decide) h (fun h => ?_) (fun h => ?_)
      · refine wa_aload_n C (i := 0) dX8_list_58 rfl rfl ?_
        refine wa_getR C (j := 2) lq_0 sh_0 rfl in_X8 (by decide) rfl f_X8_25 dX8_list_59 ?_
        refine wa_iload_n C (i := 2) dX8_list_62 rfl rfl ?_
        refine wa_iload_n C (i := 3) dX8_list_63 rfl rfl ?_
        refine wa_aload_n C (i := 0) dX8_list_64 rfl rfl ?_
        refine wa_getR C (j := 1) lq_0 sh_0 rfl in_X8 (by decide) rfl f_X8_20 dX8_list_65 ?_
        refine wa_iload_n C (i := 1) dX8_list_68 rfl rfl ?_
        refine wa_callVi C lq_6 sh_6 rfl s_X8_111 i_X2_lateAt e_X2_lateAt dX8_list_69 (ok_X2_lateAt h) rfl rfl (Nat.le_of_ble_eq_true rfl) (by rw [hd]; decide) (fun v2 g4 h => ?_)
        refine wa_callVi C lq_18 sh_18 rfl s_X8_130 i_X6_unitAt e_X6_unitAt dX8_list_72 (ok_X6_unitAt h) rfl rfl (Nat.le_of_ble_eq_true rfl) (by rw [hd]; decide) (fun v3 g5 h => ?_)
        exact wa_iret C hv rfl dX8_list_75 h
      · refine wa_aload_n C (i := 0) dX8_list_49 rfl rfl ?_
        refine wa_iload C dX8_list_50 rfl ?_
        refine wa_callVi C lq_0 sh_0 rfl s_X8_59 i_X8_refuse e_X8_refuse dX8_list_52 (ok_X8_refuse h) rfl rfl (Nat.le_of_ble_eq_true rfl) (by rw [hd]; decide) (fun v4 g6 h => ?_)
        refine wa_goto C (tgt := 75) dX8_list_55 (by decide) ?_
        exact wa_iret C hv rfl dX8_list_75 h
    refine wa_if_eq C (tgt := 41) dX8_list_27 (by decide) h (fun h => ?_) (fun h => ?_)
    · refine wa_iconst C (v := (-1)) dX8_list_41 (by decide) ?_
      exact WA.weak (hJ42 _ _ h) ⟨rfl, ⟨rfl, ⟨rfl, ⟨rfl, trivial⟩⟩⟩⟩
    · refine wa_iload_n C (i := 3) dX8_list_30 rfl rfl ?_
      refine wa_iconst C (v := 0) dX8_list_31 (by decide) ?_
      refine wa_sipush C (v := 2000) dX8_list_32 (by decide) ?_
      refine wa_callSi C s_X8_77 t_X8_outside dX8_list_35 (ok_X8_outside h) rfl rfl (Nat.le_of_ble_eq_true rfl) (by rw [hd]; decide) (fun v5 g7 h => ?_)
      refine wa_goto C (tgt := 42) dX8_list_38 (by decide) ?_
      exact WA.weak (hJ42 _ _ h) ⟨rfl, ⟨rfl, ⟨rfl, ⟨rfl, trivial⟩⟩⟩⟩
  refine fp_j0 (Q := fun g8 => WA Z 22 [some (.ref 0), some (.int x1), some (.int x2), some (.int x3), none, none] [] g8) h (fun g8 h => ?_) (fun J22 hJ22 h => ?_)
  · refine wa_iconst C (v := 0) dX8_list_22 (by decide) ?_
    exact WA.weak (hJ23 _ _ h) ⟨rfl, ⟨rfl, ⟨rfl, ⟨rfl, trivial⟩⟩⟩⟩
  refine wa_if_eq C (tgt := 22) dX8_list_8 (by decide) h (fun h => ?_) (fun h => ?_)
  · exact WA.weak (hJ22 _ h) ⟨rfl, ⟨rfl, ⟨rfl, ⟨rfl, trivial⟩⟩⟩⟩
  · refine wa_iload_n C (i := 2) dX8_list_11 rfl rfl ?_
    refine wa_callSi C s_X8_118 t_X8_isUnit dX8_list_12 (ok_X8_isUnit h) rfl rfl (Nat.le_of_ble_eq_true rfl) (by rw [hd]; decide) (fun v6 g9 h => ?_)
    refine wa_if_eq C (tgt := 22) dX8_list_15 (by decide) h (fun h => ?_) (fun h => ?_)
    · exact WA.weak (hJ22 _ h) ⟨rfl, ⟨rfl, ⟨rfl, ⟨rfl, trivial⟩⟩⟩⟩
    · refine wa_iconst C (v := 1) dX8_list_18 (by decide) ?_
      refine wa_goto C (tgt := 23) dX8_list_19 (by decide) ?_
      exact WA.weak (hJ23 _ _ h) ⟨rfl, ⟨rfl, ⟨rfl, ⟨rfl, trivial⟩⟩⟩⟩

set_option maxRecDepth 20000 in
theorem ok_X8_man {l : Launch} {E : fp_E} {x1 : Int32} {x2 : Int32} {g : fp_G} {K : Int32 → fp_G → Prop} (h : w_X8_man x1 x2 g K) : fp_M l E yX8_man cX8_man 3 ((Option.some Jvm.ClassFile.FieldType.int)) false 2 [.ref 0, .int x1, .int x2] g K := by
  unfold w_X8_man at h
  refine fp_enter rfl [some (.ref 0), some (.int x1), some (.int x2)] (Nat.le_of_ble_eq_true rfl) (fun q hq => hq) (fun Z hE hl hv hK hn hd C => ?_)
  subst hE hl hK
  refine wa_iload_n C (i := 1) dX8_man_0 rfl rfl ?_
  refine wa_callSi C s_X8_118 t_X8_isUnit dX8_man_1 (ok_X8_isUnit h) rfl rfl (Nat.le_of_ble_eq_true rfl) (by rw [hd]; decide) (fun v1 g1 h => ?_)
  refine wa_if_ne C (tgt := 13) dX8_man_4 (by decide) h (fun h => ?_) (fun h => ?_)
  · refine wa_aload_n C (i := 0) dX8_man_7 rfl rfl ?_
    refine wa_iconst C (v := (-1)) dX8_man_8 (by decide) ?_
    refine wa_callVi C lq_0 sh_0 rfl s_X8_59 i_X8_refuse e_X8_refuse dX8_man_9 (ok_X8_refuse h) rfl rfl (Nat.le_of_ble_eq_true rfl) (by rw [hd]; decide) (fun v5 g5 h => ?_)
    exact wa_iret C hv rfl dX8_man_12 h
  · refine wa_iload_n C (i := 2) dX8_man_13 rfl rfl ?_
    refine wa_if_ge C (tgt := 24) dX8_man_14 (by decide) h (fun h => ?_) (fun h => ?_)
    · refine wa_iload_n C (i := 2) dX8_man_24 rfl rfl ?_
      refine wa_sipush C (v := 9999) dX8_man_25 (by decide) ?_
      refine fp_k0 (Q := WA Z 43 [some (.ref 0), none, none] [] g1) h (fun  h => ?_) (fun J43 hJ43 h => ?_)
      · refine wa_aload_n C (i := 0) dX8_man_43 rfl rfl ?_
        refine wa_bipush C (v := (-6)) dX8_man_44 (by decide) ?_
        refine wa_callVi C lq_0 sh_0 rfl s_X8_59 i_X8_refuse e_X8_refuse dX8_man_46 (ok_X8_refuse h) rfl rfl (Nat.le_of_ble_eq_true rfl) (by rw [hd]; decide) (fun v2 g2 h => ?_)
        exact wa_iret C hv rfl dX8_man_49 h
      refine wa_icmp_gt C (tgt := 43) dX8_man_28 (by decide) h (fun h => ?_) (fun h => ?_)
      · exact WA.weak (hJ43  h) ⟨rfl, trivial⟩
      · refine wa_aload_n C (i := 0) dX8_man_31 rfl rfl ?_
        refine wa_getR C (j := 2) lq_0 sh_0 rfl in_X8 (by decide) rfl f_X8_25 dX8_man_32 ?_
        refine wa_getI C (j := 7) lq_18 sh_18 rfl in_X6 (by decide) rfl f_X8_133 dX8_man_35 ?_
        refine wa_bipush C (v := 40) dX8_man_38 (by decide) ?_
        refine wa_icmp_lt C (tgt := 50) dX8_man_40 (by decide) h (fun h => ?_) (fun h => ?_)
        · refine wa_aload_n C (i := 0) dX8_man_50 rfl rfl ?_
          refine wa_getR C (j := 2) lq_0 sh_0 rfl in_X8 (by decide) rfl f_X8_25 dX8_man_51 ?_
          refine wa_iload_n C (i := 1) dX8_man_54 rfl rfl ?_
          refine wa_iload_n C (i := 2) dX8_man_55 rfl rfl ?_
          refine wa_callVi C lq_18 sh_18 rfl s_X8_136 i_X6_addMan e_X6_addMan dX8_man_56 (ok_X6_addMan h) rfl rfl (Nat.le_of_ble_eq_true rfl) (by rw [hd]; decide) (fun v3 g3 h => ?_)
          exact wa_iret C hv rfl dX8_man_59 h
        · exact WA.weak (hJ43  h) ⟨rfl, trivial⟩
    · refine wa_aload_n C (i := 0) dX8_man_17 rfl rfl ?_
      refine wa_bipush C (v := (-4)) dX8_man_18 (by decide) ?_
      refine wa_callVi C lq_0 sh_0 rfl s_X8_59 i_X8_refuse e_X8_refuse dX8_man_20 (ok_X8_refuse h) rfl rfl (Nat.le_of_ble_eq_true rfl) (by rw [hd]; decide) (fun v4 g4 h => ?_)
      exact wa_iret C hv rfl dX8_man_23 h

set_option maxRecDepth 20000 in
theorem ok_X8_state {l : Launch} {E : fp_E} {x1 : Int32} {x2 : Int32} {x3 : Int32} {g : fp_G} {K : Int32 → fp_G → Prop} (h : w_X8_state x1 x2 x3 g K) : fp_M l E yX8_state cX8_state 4 ((Option.some Jvm.ClassFile.FieldType.int)) false 2 [.ref 0, .int x1, .int x2, .int x3] g K := by
  unfold w_X8_state at h
  refine fp_enter rfl [some (.ref 0), some (.int x1), some (.int x2), some (.int x3)] (Nat.le_of_ble_eq_true rfl) (fun q hq => hq) (fun Z hE hl hv hK hn hd C => ?_)
  subst hE hl hK
  refine wa_aload_n C (i := 0) dX8_state_0 rfl rfl ?_
  refine wa_getR C (j := 2) lq_0 sh_0 rfl in_X8 (by decide) rfl f_X8_25 dX8_state_1 ?_
  refine wa_iload_n C (i := 1) dX8_state_4 rfl rfl ?_
  refine wa_callVi C lq_18 sh_18 rfl s_X8_139 i_X6_hasMan e_X6_hasMan dX8_state_5 (ok_X6_hasMan h) rfl rfl (Nat.le_of_ble_eq_true rfl) (by rw [hd]; decide) (fun v1 g1 h => ?_)
  refine fp_j0 (Q := fun g2 => WA Z 27 [some (.ref 0), none, none, none] [] g2) h (fun g2 h => ?_) (fun J27 hJ27 h => ?_)
  · refine wa_aload_n C (i := 0) dX8_state_27 rfl rfl ?_
    refine wa_iconst C (v := (-1)) dX8_state_28 (by decide) ?_
    refine wa_callVi C lq_0 sh_0 rfl s_X8_59 i_X8_refuse e_X8_refuse dX8_state_29 (ok_X8_refuse h) rfl rfl (Nat.le_of_ble_eq_true rfl) (by rw [hd]; decide) (fun v2 g3 h => ?_)
    exact wa_iret C hv rfl dX8_state_32 h
  refine wa_if_eq C (tgt := 27) dX8_state_8 (by decide) h (fun h => ?_) (fun h => ?_)
  · exact WA.weak (hJ27 _ h) ⟨rfl, trivial⟩
  · refine wa_iload_n C (i := 2) dX8_state_11 rfl rfl ?_
    refine wa_iconst C (v := 1) dX8_state_12 (by decide) ?_
    refine fp_j0 (Q := fun g4 => WA Z 33 [some (.ref 0), some (.int x1), some (.int x2), some (.int x3)] [] g4) h (fun g4 h => ?_) (fun J33 hJ33 h => ?_)
    · refine wa_iload_n C (i := 2) dX8_state_33 rfl rfl ?_
      refine fp_k0 (Q := WA Z 42 [some (.ref 0), none, none, none] [] g4) h (fun  h => ?_) (fun J42 hJ42 h => ?_)
      · refine wa_aload_n C (i := 0) dX8_state_42 rfl rfl ?_
        refine wa_bipush C (v := (-2)) dX8_state_43 (by decide) ?_
        refine wa_callVi C lq_0 sh_0 rfl s_X8_59 i_X8_refuse e_X8_refuse dX8_state_45 (ok_X8_refuse h) rfl rfl (Nat.le_of_ble_eq_true rfl) (by rw [hd]; decide) (fun v3 g5 h => ?_)
        exact wa_iret C hv rfl dX8_state_48 h
      refine wa_if_lt C (tgt := 42) dX8_state_34 (by decide) h (fun h => ?_) (fun h => ?_)
      · exact WA.weak (hJ42  h) ⟨rfl, trivial⟩
      · refine wa_iload_n C (i := 2) dX8_state_37 rfl rfl ?_
        refine wa_iconst C (v := 3) dX8_state_38 (by decide) ?_
        refine wa_icmp_le C (tgt := 49) dX8_state_39 (by decide) h (fun h => ?_) (fun h => ?_)
        · refine wa_aload_n C (i := 0) dX8_state_49 rfl rfl ?_
          refine wa_getR C (j := 2) lq_0 sh_0 rfl in_X8 (by decide) rfl f_X8_25 dX8_state_50 ?_
          refine wa_getI C (j := 12) lq_18 sh_18 rfl in_X6 (by decide) rfl f_X8_142 dX8_state_53 ?_
          refine wa_bipush C (v := 80) dX8_state_56 (by decide) ?_
          refine wa_icmp_lt C (tgt := 68) dX8_state_58 (by decide) h (fun h => ?_) (fun h => ?_)
          · refine wa_aload_n C (i := 0) dX8_state_68 rfl rfl ?_
            refine wa_getR C (j := 2) lq_0 sh_0 rfl in_X8 (by decide) rfl f_X8_25 dX8_state_69 ?_
            refine wa_iload_n C (i := 1) dX8_state_72 rfl rfl ?_
            refine wa_iload_n C (i := 2) dX8_state_73 rfl rfl ?_
            refine wa_iload_n C (i := 3) dX8_state_74 rfl rfl ?_
            refine wa_aload_n C (i := 0) dX8_state_75 rfl rfl ?_
            refine wa_getI C (j := 9) lq_0 sh_0 rfl in_X8 (by decide) rfl f_X8_95 dX8_state_76 ?_
            refine wa_callVi C lq_18 sh_18 rfl s_X8_145 i_X6_addState e_X6_addState dX8_state_79 (ok_X6_addState h) rfl rfl (Nat.le_of_ble_eq_true rfl) (by rw [hd]; decide) (fun v4 g6 h => ?_)
            exact wa_iret C hv rfl dX8_state_82 h
          · refine wa_aload_n C (i := 0) dX8_state_61 rfl rfl ?_
            refine wa_bipush C (v := (-6)) dX8_state_62 (by decide) ?_
            refine wa_callVi C lq_0 sh_0 rfl s_X8_59 i_X8_refuse e_X8_refuse dX8_state_64 (ok_X8_refuse h) rfl rfl (Nat.le_of_ble_eq_true rfl) (by rw [hd]; decide) (fun v5 g7 h => ?_)
            exact wa_iret C hv rfl dX8_state_67 h
        · exact WA.weak (hJ42  h) ⟨rfl, trivial⟩
    refine wa_icmp_ne C (tgt := 33) dX8_state_13 (by decide) h (fun h => ?_) (fun h => ?_)
    · refine wa_aload_n C (i := 0) dX8_state_16 rfl rfl ?_
      refine wa_getR C (j := 1) lq_0 sh_0 rfl in_X8 (by decide) rfl f_X8_20 dX8_state_17 ?_
      refine wa_iload_n C (i := 3) dX8_state_20 rfl rfl ?_
      refine wa_callVi C lq_6 sh_6 rfl s_X8_73 i_X2_hasOffice e_X2_hasOffice dX8_state_21 (ok_X2_hasOffice h) rfl rfl (Nat.le_of_ble_eq_true rfl) (by rw [hd]; decide) (fun v6 g8 h => ?_)
      refine wa_if_ne C (tgt := 33) dX8_state_24 (by decide) h (fun h => ?_) (fun h => ?_)
      · exact WA.weak (hJ27 _ h) ⟨rfl, trivial⟩
      · exact WA.weak (hJ33 _ h) ⟨rfl, ⟨rfl, ⟨rfl, ⟨rfl, trivial⟩⟩⟩⟩
    · exact WA.weak (hJ33 _ h) ⟨rfl, ⟨rfl, ⟨rfl, ⟨rfl, trivial⟩⟩⟩⟩

set_option maxRecDepth 20000 in
theorem ok_X8_stateOf {l : Launch} {E : fp_E} {x1 : Int32} {x2 : Int32} {x3 : Int32} {g : fp_G} {K : Int32 → fp_G → Prop} (h : w_X8_stateOf x1 x2 x3 g K) : fp_M l E yX8_stateOf cX8_stateOf 7 ((Option.some Jvm.ClassFile.FieldType.int)) false 3 [.ref 0, .int x1, .int x2, .int x3] g K := by
  unfold w_X8_stateOf at h
  refine fp_enter rfl [some (.ref 0), some (.int x1), some (.int x2), some (.int x3), none, none, none] (Nat.le_of_ble_eq_true rfl) (fun q hq => hq) (fun Z hE hl hv hK hn hd C => ?_)
  subst hE hl hK
  refine wa_iload_n C (i := 3) dX8_stateOf_0 rfl rfl ?_
  refine wa_iconst C (v := (-1)) dX8_stateOf_1 (by decide) ?_
  refine fp_k1 (Q := fun z0j10 => WA Z 10 [some (.ref 0), some (.int x1), some (.int x2), some (.int x3), none, none, none] [.int z0j10] g) h (fun z0j10 h => ?_) (fun J10 hJ10 h => ?_)
  · refine wa_istore C (i := 4) dX8_stateOf_10 (by rw [hn]; decide) rfl rfl ?_
    refine wa_aload_n C (i := 0) dX8_stateOf_12 rfl rfl ?_
    refine wa_getR C (j := 2) lq_0 sh_0 rfl in_X8 (by decide) rfl f_X8_25 dX8_stateOf_13 ?_
    refine wa_iload_n C (i := 1) dX8_stateOf_16 rfl rfl ?_
    refine wa_callVi C lq_18 sh_18 rfl s_X8_139 i_X6_hasMan e_X6_hasMan dX8_stateOf_17 (ok_X6_hasMan h) rfl rfl (Nat.le_of_ble_eq_true rfl) (by rw [hd]; decide) (fun v1 g1 h => ?_)
    refine fp_j1 (Q := fun z0j44 g2 => WA Z 44 [some (.ref 0), some (.int x1), some (.int x2), some (.int x3), some (.int z0j10), none, none] [.int z0j44] g2) h (fun z0j44 g2 h => ?_) (fun J44 hJ44 h => ?_)
    · refine wa_istore C (i := 5) dX8_stateOf_44 (by rw [hn]; decide) rfl rfl ?_
      refine wa_iload C dX8_stateOf_46 rfl ?_
      refine fp_j1 (Q := fun z0j63 g3 => WA Z 63 [some (.ref 0), some (.int x1), some (.int x2), some (.int x3), some (.int z0j10), none, none] [.int z0j63] g3) h (fun z0j63 g3 h => ?_) (fun J63 hJ63 h => ?_)
      · refine wa_istore C (i := 6) dX8_stateOf_63 (by rw [hn]; decide) rfl rfl ?_
        refine wa_iload C dX8_stateOf_65 rfl ?_
        refine wa_if_ge C (tgt := 77) dX8_stateOf_67 (by decide) h (fun h => ?_) (fun h => ?_)
        · refine wa_aload_n C (i := 0) dX8_stateOf_77 rfl rfl ?_
          refine wa_getR C (j := 2) lq_0 sh_0 rfl in_X8 (by decide) rfl f_X8_25 dX8_stateOf_78 ?_
          refine wa_iload_n C (i := 1) dX8_stateOf_81 rfl rfl ?_
          refine wa_iload_n C (i := 2) dX8_stateOf_82 rfl rfl ?_
          refine wa_iload C dX8_stateOf_83 rfl ?_
          refine wa_if_eq C (tgt := 92) dX8_stateOf_85 (by decide) h (fun h => ?_) (fun h => ?_)
          · refine wa_aload_n C (i := 0) dX8_stateOf_92 rfl rfl ?_
            refine wa_getR C (j := 1) lq_0 sh_0 rfl in_X8 (by decide) rfl f_X8_20 dX8_stateOf_93 ?_
            refine wa_iload_n C (i := 3) dX8_stateOf_96 rfl rfl ?_
            refine wa_callVi C lq_6 sh_6 rfl s_X8_111 i_X2_lateAt e_X2_lateAt dX8_stateOf_97 (ok_X2_lateAt h) rfl rfl (Nat.le_of_ble_eq_true rfl) (by rw [hd]; decide) (fun v2 g4 h => ?_)
            refine wa_callVi C lq_18 sh_18 rfl s_X8_148 i_X6_stateBy e_X6_stateBy dX8_stateOf_100 (ok_X6_stateBy h) rfl rfl (Nat.le_of_ble_eq_true rfl) (by rw [hd]; decide) (fun v3 g5 h => ?_)
            exact wa_iret C hv rfl dX8_stateOf_103 h
          · refine wa_iconst C (v := 0) dX8_stateOf_88 (by decide) ?_
            refine wa_goto C (tgt := 100) dX8_stateOf_89 (by decide) ?_
            refine wa_callVi C lq_18 sh_18 rfl s_X8_148 i_X6_stateBy e_X6_stateBy dX8_stateOf_100 (ok_X6_stateBy h) rfl rfl (Nat.le_of_ble_eq_true rfl) (by rw [hd]; decide) (fun v4 g6 h => ?_)
            exact wa_iret C hv rfl dX8_stateOf_103 h
        · refine wa_aload_n C (i := 0) dX8_stateOf_70 rfl rfl ?_
          refine wa_iload C dX8_stateOf_71 rfl ?_
          refine wa_callVi C lq_0 sh_0 rfl s_X8_59 i_X8_refuse e_X8_refuse dX8_stateOf_73 (ok_X8_refuse h) rfl rfl (Nat.le_of_ble_eq_true rfl) (by rw [hd]; decide) (fun v5 g7 h => ?_)
          exact wa_iret C hv rfl dX8_stateOf_76 h
      refine wa_if_eq C (tgt := 62) dX8_stateOf_48 (by decide) h (fun h => ?_) (fun h => ?_)
      · refine wa_iconst C (v := (-1)) dX8_stateOf_62 (by decide) ?_
        exact WA.weak (hJ63 _ _ h) ⟨rfl, ⟨rfl, ⟨rfl, ⟨rfl, ⟨rfl, trivial⟩⟩⟩⟩⟩
      · refine wa_iload_n C (i := 2) dX8_stateOf_51 rfl rfl ?_
        refine wa_iconst C (v := 0) dX8_stateOf_52 (by decide) ?_
        refine wa_sipush C (v := 2000) dX8_stateOf_53 (by decide) ?_
        refine wa_callSi C s_X8_77 t_X8_outside dX8_stateOf_56 (ok_X8_outside h) rfl rfl (Nat.le_of_ble_eq_true rfl) (by rw [hd]; decide) (fun v6 g8 h => ?_)
        refine wa_goto C (tgt := 63) dX8_stateOf_59 (by decide) ?_
        exact WA.weak (hJ63 _ _ h) ⟨rfl, ⟨rfl, ⟨rfl, ⟨rfl, ⟨rfl, trivial⟩⟩⟩⟩⟩
    refine fp_j0 (Q := fun g9 => WA Z 43 [some (.ref 0), some (.int x1), some (.int x2), some (.int x3), some (.int z0j10), none, none] [] g9) h (fun g9 h => ?_) (fun J43 hJ43 h => ?_)
    · refine wa_iconst C (v := 0) dX8_stateOf_43 (by decide) ?_
      exact WA.weak (hJ44 _ _ h) ⟨rfl, ⟨rfl, ⟨rfl, ⟨rfl, ⟨rfl, trivial⟩⟩⟩⟩⟩
    refine wa_if_eq C (tgt := 43) dX8_stateOf_20 (by decide) h (fun h => ?_) (fun h => ?_)
    · exact WA.weak (hJ43 _ h) ⟨rfl, ⟨rfl, ⟨rfl, ⟨rfl, ⟨rfl, trivial⟩⟩⟩⟩⟩
    · refine wa_iload C dX8_stateOf_23 rfl ?_
      refine fp_j0 (Q := fun g10 => WA Z 39 [some (.ref 0), some (.int x1), some (.int x2), some (.int x3), some (.int z0j10), none, none] [] g10) h (fun g10 h => ?_) (fun J39 hJ39 h => ?_)
      · refine wa_iconst C (v := 1) dX8_stateOf_39 (by decide) ?_
        refine wa_goto C (tgt := 44) dX8_stateOf_40 (by decide) ?_
        exact WA.weak (hJ44 _ _ h) ⟨rfl, ⟨rfl, ⟨rfl, ⟨rfl, ⟨rfl, trivial⟩⟩⟩⟩⟩
      refine wa_if_ne C (tgt := 39) dX8_stateOf_25 (by decide) h (fun h => ?_) (fun h => ?_)
      · refine wa_aload_n C (i := 0) dX8_stateOf_28 rfl rfl ?_
        refine wa_getR C (j := 1) lq_0 sh_0 rfl in_X8 (by decide) rfl f_X8_20 dX8_stateOf_29 ?_
        refine wa_iload_n C (i := 3) dX8_stateOf_32 rfl rfl ?_
        refine wa_callVi C lq_6 sh_6 rfl s_X8_73 i_X2_hasOffice e_X2_hasOffice dX8_stateOf_33 (ok_X2_hasOffice h) rfl rfl (Nat.le_of_ble_eq_true rfl) (by rw [hd]; decide) (fun v7 g11 h => ?_)
        refine wa_if_eq C (tgt := 43) dX8_stateOf_36 (by decide) h (fun h => ?_) (fun h => ?_)
        · exact WA.weak (hJ43 _ h) ⟨rfl, ⟨rfl, ⟨rfl, ⟨rfl, ⟨rfl, trivial⟩⟩⟩⟩⟩
        · exact WA.weak (hJ39 _ h) ⟨rfl, ⟨rfl, ⟨rfl, ⟨rfl, ⟨rfl, trivial⟩⟩⟩⟩⟩
      · exact WA.weak (hJ39 _ h) ⟨rfl, ⟨rfl, ⟨rfl, ⟨rfl, ⟨rfl, trivial⟩⟩⟩⟩⟩
  refine wa_icmp_ne C (tgt := 9) dX8_stateOf_2 (by decide) h (fun h => ?_) (fun h => ?_)
  · refine wa_iconst C (v := 1) dX8_stateOf_5 (by decide) ?_
    refine wa_goto C (tgt := 10) dX8_stateOf_6 (by decide) ?_
    exact WA.weak (hJ10 _ h) ⟨rfl, ⟨rfl, ⟨rfl, ⟨rfl, trivial⟩⟩⟩⟩
  · refine wa_iconst C (v := 0) dX8_stateOf_9 (by decide) ?_
    exact WA.weak (hJ10 _ h) ⟨rfl, ⟨rfl, ⟨rfl, ⟨rfl, trivial⟩⟩⟩⟩

set_option maxRecDepth 20000 in
theorem ok_X8_manAt {l : Launch} {E : fp_E} {x1 : Int32} {g : fp_G} {K : Int32 → fp_G → Prop} (h : w_X8_manAt x1 g K) : fp_M l E yX8_manAt cX8_manAt 2 ((Option.some Jvm.ClassFile.FieldType.int)) false 3 [.ref 0, .int x1] g K := by
  unfold w_X8_manAt at h
  refine fp_enter rfl [some (.ref 0), some (.int x1)] (Nat.le_of_ble_eq_true rfl) (fun q hq => hq) (fun Z hE hl hv hK hn hd C => ?_)
  subst hE hl hK
  refine wa_aload_n C (i := 0) dX8_manAt_0 rfl rfl ?_
  refine wa_getR C (j := 2) lq_0 sh_0 rfl in_X8 (by decide) rfl f_X8_25 dX8_manAt_1 ?_
  refine wa_iload_n C (i := 1) dX8_manAt_4 rfl rfl ?_
  refine wa_callVi C lq_18 sh_18 rfl s_X8_139 i_X6_hasMan e_X6_hasMan dX8_manAt_5 (ok_X6_hasMan h) rfl rfl (Nat.le_of_ble_eq_true rfl) (by rw [hd]; decide) (fun v1 g1 h => ?_)
  refine wa_if_ne C (tgt := 17) dX8_manAt_8 (by decide) h (fun h => ?_) (fun h => ?_)
  · refine wa_aload_n C (i := 0) dX8_manAt_11 rfl rfl ?_
    refine wa_iconst C (v := (-1)) dX8_manAt_12 (by decide) ?_
    refine wa_callVi C lq_0 sh_0 rfl s_X8_59 i_X8_refuse e_X8_refuse dX8_manAt_13 (ok_X8_refuse h) rfl rfl (Nat.le_of_ble_eq_true rfl) (by rw [hd]; decide) (fun v3 g3 h => ?_)
    exact wa_iret C hv rfl dX8_manAt_16 h
  · refine wa_aload_n C (i := 0) dX8_manAt_17 rfl rfl ?_
    refine wa_getR C (j := 2) lq_0 sh_0 rfl in_X8 (by decide) rfl f_X8_25 dX8_manAt_18 ?_
    refine wa_iload_n C (i := 1) dX8_manAt_21 rfl rfl ?_
    refine wa_aload_n C (i := 0) dX8_manAt_22 rfl rfl ?_
    refine wa_getI C (j := 9) lq_0 sh_0 rfl in_X8 (by decide) rfl f_X8_95 dX8_manAt_23 ?_
    refine wa_callVi C lq_18 sh_18 rfl s_X8_151 i_X6_manIsAt e_X6_manIsAt dX8_manAt_26 (ok_X6_manIsAt h) rfl rfl (Nat.le_of_ble_eq_true rfl) (by rw [hd]; decide) (fun v2 g2 h => ?_)
    exact wa_iret C hv rfl dX8_manAt_29 h

set_option maxRecDepth 20000 in
theorem ok_X8_mostWeight {l : Launch} {E : fp_E} {x0 : Int32} {g : fp_G} {K : Int32 → fp_G → Prop} (h : w_X8_mostWeight x0 g K) : fp_M l E yX8_mostWeight cX8_mostWeight 1 ((Option.some Jvm.ClassFile.FieldType.int)) false 1 [.int x0] g K := by
  unfold w_X8_mostWeight at h
  refine fp_enter rfl [some (.int x0)] (Nat.le_of_ble_eq_true rfl) (fun q hq => hq) (fun Z hE hl hv hK hn hd C => ?_)
  subst hE hl hK
  refine wa_iload_n C (i := 0) dX8_mostWeight_0 rfl rfl ?_
  refine wa_iconst C (v := 2) dX8_mostWeight_1 (by decide) ?_
  refine wa_icmp_ne C (tgt := 9) dX8_mostWeight_2 (by decide) h (fun h => ?_) (fun h => ?_)
  · refine wa_sipush C (v := 9999) dX8_mostWeight_5 (by decide) ?_
    exact wa_iret C hv rfl dX8_mostWeight_8 h
  · refine wa_iload_n C (i := 0) dX8_mostWeight_9 rfl rfl ?_
    refine wa_iconst C (v := 1) dX8_mostWeight_10 (by decide) ?_
    refine wa_icmp_ne C (tgt := 20) dX8_mostWeight_11 (by decide) h (fun h => ?_) (fun h => ?_)
    · refine wa_sipush C (v := 999) dX8_mostWeight_14 (by decide) ?_
      refine wa_goto C (tgt := 22) dX8_mostWeight_17 (by decide) ?_
      exact wa_iret C hv rfl dX8_mostWeight_22 h
    · refine wa_bipush C (v := 99) dX8_mostWeight_20 (by decide) ?_
      exact wa_iret C hv rfl dX8_mostWeight_22 h

set_option maxRecDepth 20000 in
theorem ok_X8_mail {l : Launch} {E : fp_E} {x1 : Int32} {x2 : Int32} {x3 : Int32} {x4 : Int32} {g : fp_G} {K : Int32 → fp_G → Prop} (h : w_X8_mail x1 x2 x3 x4 g K) : fp_M l E yX8_mail cX8_mail 6 ((Option.some Jvm.ClassFile.FieldType.int)) false 3 [.ref 0, .int x1, .int x2, .int x3, .int x4] g K := by
  unfold w_X8_mail at h
  refine fp_enter rfl [some (.ref 0), some (.int x1), some (.int x2), some (.int x3), some (.int x4), none] (Nat.le_of_ble_eq_true rfl) (fun q hq => hq) (fun Z hE hl hv hK hn hd C => ?_)
  subst hE hl hK
  refine wa_iload_n C (i := 1) dX8_mail_0 rfl rfl ?_
  refine fp_k0 (Q := WA Z 9 [some (.ref 0), none, none, none, none, none] [] g) h (fun  h => ?_) (fun J9 hJ9 h => ?_)
  · refine wa_aload_n C (i := 0) dX8_mail_9 rfl rfl ?_
    refine wa_bipush C (v := (-2)) dX8_mail_10 (by decide) ?_
    refine wa_callVi C lq_0 sh_0 rfl s_X8_59 i_X8_refuse e_X8_refuse dX8_mail_12 (ok_X8_refuse h) rfl rfl (Nat.le_of_ble_eq_true rfl) (by rw [hd]; decide) (fun v1 g1 h => ?_)
    exact wa_iret C hv rfl dX8_mail_15 h
  refine wa_if_lt C (tgt := 9) dX8_mail_1 (by decide) h (fun h => ?_) (fun h => ?_)
  · exact WA.weak (hJ9  h) ⟨rfl, trivial⟩
  · refine wa_iload_n C (i := 1) dX8_mail_4 rfl rfl ?_
    refine wa_iconst C (v := 2) dX8_mail_5 (by decide) ?_
    refine wa_icmp_le C (tgt := 16) dX8_mail_6 (by decide) h (fun h => ?_) (fun h => ?_)
    · refine wa_aload_n C (i := 0) dX8_mail_16 rfl rfl ?_
      refine wa_getR C (j := 1) lq_0 sh_0 rfl in_X8 (by decide) rfl f_X8_20 dX8_mail_17 ?_
      refine wa_iload_n C (i := 2) dX8_mail_20 rfl rfl ?_
      refine wa_callVi C lq_6 sh_6 rfl s_X8_73 i_X2_hasOffice e_X2_hasOffice dX8_mail_21 (ok_X2_hasOffice h) rfl rfl (Nat.le_of_ble_eq_true rfl) (by rw [hd]; decide) (fun v2 g2 h => ?_)
      refine fp_j0 (Q := fun g3 => WA Z 38 [some (.ref 0), none, none, none, none, none] [] g3) h (fun g3 h => ?_) (fun J38 hJ38 h => ?_)
      · refine wa_aload_n C (i := 0) dX8_mail_38 rfl rfl ?_
        refine wa_iconst C (v := (-1)) dX8_mail_39 (by decide) ?_
        refine wa_callVi C lq_0 sh_0 rfl s_X8_59 i_X8_refuse e_X8_refuse dX8_mail_40 (ok_X8_refuse h) rfl rfl (Nat.le_of_ble_eq_true rfl) (by rw [hd]; decide) (fun v3 g4 h => ?_)
        exact wa_iret C hv rfl dX8_mail_43 h
      refine wa_if_eq C (tgt := 38) dX8_mail_24 (by decide) h (fun h => ?_) (fun h => ?_)
      · exact WA.weak (hJ38 _ h) ⟨rfl, trivial⟩
      · refine wa_aload_n C (i := 0) dX8_mail_27 rfl rfl ?_
        refine wa_getR C (j := 2) lq_0 sh_0 rfl in_X8 (by decide) rfl f_X8_25 dX8_mail_28 ?_
        refine wa_iload_n C (i := 3) dX8_mail_31 rfl rfl ?_
        refine wa_callVi C lq_18 sh_18 rfl s_X8_139 i_X6_hasMan e_X6_hasMan dX8_mail_32 (ok_X6_hasMan h) rfl rfl (Nat.le_of_ble_eq_true rfl) (by rw [hd]; decide) (fun v4 g5 h => ?_)
        refine wa_if_ne C (tgt := 44) dX8_mail_35 (by decide) h (fun h => ?_) (fun h => ?_)
        · exact WA.weak (hJ38 _ h) ⟨rfl, trivial⟩
        · refine wa_iload C dX8_mail_44 rfl ?_
          refine wa_iload_n C (i := 1) dX8_mail_46 rfl rfl ?_
          refine wa_iconst C (v := 1) dX8_mail_47 (by decide) ?_
          refine fp_k1 (Q := fun z0j56 => WA Z 56 [some (.ref 0), some (.int x1), some (.int x2), some (.int x3), some (.int x4), none] [.int z0j56, .int x4] g5) h (fun z0j56 h => ?_) (fun J56 hJ56 h => ?_)
          · refine wa_icmp_ge C (tgt := 66) dX8_mail_56 (by decide) h (fun h => ?_) (fun h => ?_)
            · refine wa_iload C dX8_mail_66 rfl ?_
              refine wa_iload_n C (i := 1) dX8_mail_68 rfl rfl ?_
              refine wa_callSi C s_X8_154 t_X8_mostWeight dX8_mail_69 (ok_X8_mostWeight h) rfl rfl (Nat.le_of_ble_eq_true rfl) (by rw [hd]; decide) (fun v5 g6 h => ?_)
              refine fp_k0 (Q := WA Z 87 [some (.ref 0), none, none, none, none, none] [] g6) h (fun  h => ?_) (fun J87 hJ87 h => ?_)
              · refine wa_aload_n C (i := 0) dX8_mail_87 rfl rfl ?_
                refine wa_bipush C (v := (-6)) dX8_mail_88 (by decide) ?_
                refine wa_callVi C lq_0 sh_0 rfl s_X8_59 i_X8_refuse e_X8_refuse dX8_mail_90 (ok_X8_refuse h) rfl rfl (Nat.le_of_ble_eq_true rfl) (by rw [hd]; decide) (fun v6 g7 h => ?_)
                exact wa_iret C hv rfl dX8_mail_93 h
              refine wa_icmp_gt C (tgt := 87) dX8_mail_72 (by decide) h (fun h => ?_) (fun h => ?_)
              · exact WA.weak (hJ87  h) ⟨rfl, trivial⟩
              · refine wa_aload_n C (i := 0) dX8_mail_75 rfl rfl ?_
                refine wa_getR C (j := 4) lq_0 sh_0 rfl in_X8 (by decide) rfl f_X8_35 dX8_mail_76 ?_
                refine wa_getI C (j := 5) lq_37 sh_37 rfl in_X1 (by decide) rfl f_X8_157 dX8_mail_79 ?_
                refine wa_bipush C (v := 60) dX8_mail_82 (by decide) ?_
                refine wa_icmp_lt C (tgt := 94) dX8_mail_84 (by decide) h (fun h => ?_) (fun h => ?_)
                · refine wa_aload_n C (i := 0) dX8_mail_94 rfl rfl ?_
                  refine wa_getR C (j := 4) lq_0 sh_0 rfl in_X8 (by decide) rfl f_X8_35 dX8_mail_95 ?_
                  refine wa_iload_n C (i := 1) dX8_mail_98 rfl rfl ?_
                  refine wa_iload_n C (i := 2) dX8_mail_99 rfl rfl ?_
                  refine wa_iload_n C (i := 3) dX8_mail_100 rfl rfl ?_
                  refine wa_iload C dX8_mail_101 rfl ?_
                  refine wa_aload_n C (i := 0) dX8_mail_103 rfl rfl ?_
                  refine wa_getI C (j := 9) lq_0 sh_0 rfl in_X8 (by decide) rfl f_X8_95 dX8_mail_104 ?_
                  refine wa_callVi C lq_37 sh_37 rfl s_X8_162 i_X1_add e_X1_add dX8_mail_107 (ok_X1_add h) rfl rfl (Nat.le_of_ble_eq_true rfl) (by rw [hd]; decide) (fun v7 g8 h => ?_)
                  refine wa_istore C (i := 5) dX8_mail_110 (by rw [hn]; decide) rfl rfl ?_
                  refine wa_aload_n C (i := 0) dX8_mail_112 rfl rfl ?_
                  refine wa_getR C (j := 5) lq_0 sh_0 rfl in_X8 (by decide) rfl f_X8_41 dX8_mail_113 ?_
                  refine wa_iload C dX8_mail_116 rfl ?_
                  refine wa_iload_n C (i := 2) dX8_mail_118 rfl rfl ?_
                  refine wa_aload_n C (i := 0) dX8_mail_119 rfl rfl ?_
                  refine wa_getI C (j := 9) lq_0 sh_0 rfl in_X8 (by decide) rfl f_X8_95 dX8_mail_120 ?_
                  refine wa_callVv C lq_43 sh_43 rfl s_X8_165 i_X0_begin e_X0_begin dX8_mail_123 (ok_X0_begin isC_43 h) rfl rfl (Nat.le_of_ble_eq_true rfl) (by rw [hd]; decide) (fun g9 h => ?_)
                  refine wa_iload C dX8_mail_126 rfl ?_
                  exact wa_iret C hv rfl dX8_mail_128 h
                · exact WA.weak (hJ87  h) ⟨rfl, trivial⟩
            · refine wa_aload_n C (i := 0) dX8_mail_59 rfl rfl ?_
              refine wa_bipush C (v := (-4)) dX8_mail_60 (by decide) ?_
              refine wa_callVi C lq_0 sh_0 rfl s_X8_59 i_X8_refuse e_X8_refuse dX8_mail_62 (ok_X8_refuse h) rfl rfl (Nat.le_of_ble_eq_true rfl) (by rw [hd]; decide) (fun v9 g10 h => ?_)
              exact wa_iret C hv rfl dX8_mail_65 h
          refine wa_icmp_ne C (tgt := 55) dX8_mail_48 (by decide) h (fun h => ?_) (fun h => ?_)
          · refine wa_iconst C (v := 1) dX8_mail_51 (by decide) ?_
            refine wa_goto C (tgt := 56) dX8_mail_52 (by decide) ?_
            exact WA.weak (hJ56 _ h) ⟨rfl, ⟨rfl, ⟨rfl, ⟨rfl, ⟨rfl, trivial⟩⟩⟩⟩⟩
          · refine wa_iconst C (v := 0) dX8_mail_55 (by decide) ?_
            exact WA.weak (hJ56 _ h) ⟨rfl, ⟨rfl, ⟨rfl, ⟨rfl, ⟨rfl, trivial⟩⟩⟩⟩⟩
    · exact WA.weak (hJ9  h) ⟨rfl, trivial⟩

set_option maxRecDepth 20000 in
theorem ok_X8_feed {l : Launch} {E : fp_E} {x1 : Int32} {x2 : Int64} {g : fp_G} {K : Int32 → fp_G → Prop} (h : w_X8_feed x1 x2 g K) : fp_M l E yX8_feed cX8_feed 4 ((Option.some Jvm.ClassFile.FieldType.int)) false 2 [.ref 0, .int x1, .long x2] g K := by
  unfold w_X8_feed at h
  refine fp_enter rfl [some (.ref 0), some (.int x1), some (.long x2), none] (Nat.le_of_ble_eq_true rfl) (fun q hq => hq) (fun Z hE hl hv hK hn hd C => ?_)
  subst hE hl hK
  refine wa_iload_n C (i := 1) dX8_feed_0 rfl rfl ?_
  refine wa_iconst C (v := 1) dX8_feed_1 (by decide) ?_
  refine wa_icmp_ge C (tgt := 12) dX8_feed_2 (by decide) h (fun h => ?_) (fun h => ?_)
  · refine wa_iload_n C (i := 1) dX8_feed_12 rfl rfl ?_
    refine wa_bipush C (v := 8) dX8_feed_13 (by decide) ?_
    refine fp_k0 (Q := WA Z 32 [some (.ref 0), none, none, none] [] g) h (fun  h => ?_) (fun J32 hJ32 h => ?_)
    · refine wa_aload_n C (i := 0) dX8_feed_32 rfl rfl ?_
      refine wa_bipush C (v := (-6)) dX8_feed_33 (by decide) ?_
      refine wa_callVi C lq_0 sh_0 rfl s_X8_59 i_X8_refuse e_X8_refuse dX8_feed_35 (ok_X8_refuse h) rfl rfl (Nat.le_of_ble_eq_true rfl) (by rw [hd]; decide) (fun v1 g1 h => ?_)
      exact wa_iret C hv rfl dX8_feed_38 h
    refine wa_icmp_gt C (tgt := 32) dX8_feed_15 (by decide) h (fun h => ?_) (fun h => ?_)
    · exact WA.weak (hJ32  h) ⟨rfl, trivial⟩
    · refine wa_iload_n C (i := 1) dX8_feed_18 rfl rfl ?_
      refine wa_bipush C (v := 60) dX8_feed_19 (by decide) ?_
      refine wa_aload_n C (i := 0) dX8_feed_21 rfl rfl ?_
      refine wa_getR C (j := 3) lq_0 sh_0 rfl in_X8 (by decide) rfl f_X8_30 dX8_feed_22 ?_
      refine wa_getI C (j := 1) lq_29 sh_29 rfl in_X3 (by decide) rfl f_X8_169 dX8_feed_25 ?_
      refine wa_isub C dX8_feed_28 ?_
      refine wa_icmp_le C (tgt := 39) dX8_feed_29 (by decide) h (fun h => ?_) (fun h => ?_)
      · refine wa_aload_n C (i := 0) dX8_feed_39 rfl rfl ?_
        refine wa_getR C (j := 3) lq_0 sh_0 rfl in_X8 (by decide) rfl f_X8_30 dX8_feed_40 ?_
        refine wa_iload_n C (i := 1) dX8_feed_43 rfl rfl ?_
        refine wa_lload_n C (i := 2) dX8_feed_44 rfl rfl ?_
        refine wa_callVi C lq_29 sh_29 rfl s_X8_174 i_X3_addBytes e_X3_addBytes dX8_feed_45 (ok_X3_addBytes h) rfl rfl (Nat.le_of_ble_eq_true rfl) (by rw [hd]; decide) (fun v2 g2 h => ?_)
        exact wa_iret C hv rfl dX8_feed_48 h
      · exact WA.weak (hJ32  h) ⟨rfl, trivial⟩
  · refine wa_aload_n C (i := 0) dX8_feed_5 rfl rfl ?_
    refine wa_bipush C (v := (-4)) dX8_feed_6 (by decide) ?_
    refine wa_callVi C lq_0 sh_0 rfl s_X8_59 i_X8_refuse e_X8_refuse dX8_feed_8 (ok_X8_refuse h) rfl rfl (Nat.le_of_ble_eq_true rfl) (by rw [hd]; decide) (fun v3 g3 h => ?_)
    exact wa_iret C hv rfl dX8_feed_11 h

set_option maxRecDepth 20000 in
theorem ok_X8_isPurpose {l : Launch} {E : fp_E} {x0 : Int32} {g : fp_G} {K : Int32 → fp_G → Prop} (h : w_X8_isPurpose x0 g K) : fp_M l E yX8_isPurpose cX8_isPurpose 1 ((Option.some Jvm.ClassFile.FieldType.boolean)) false 1 [.int x0] g K := by
  unfold w_X8_isPurpose at h
  refine fp_enter rfl [some (.int x0)] (Nat.le_of_ble_eq_true rfl) (fun q hq => hq) (fun Z hE hl hv hK hn hd C => ?_)
  subst hE hl hK
  refine wa_iload_n C (i := 0) dX8_isPurpose_0 rfl rfl ?_
  refine fp_k0 (Q := WA Z 13 [none] [] g) h (fun  h => ?_) (fun J13 hJ13 h => ?_)
  · refine wa_iconst C (v := 0) dX8_isPurpose_13 (by decide) ?_
    exact wa_zret C hv rfl rfl dX8_isPurpose_14 h
  refine wa_if_lt C (tgt := 13) dX8_isPurpose_1 (by decide) h (fun h => ?_) (fun h => ?_)
  · exact WA.weak (hJ13  h) trivial
  · refine wa_iload_n C (i := 0) dX8_isPurpose_4 rfl rfl ?_
    refine wa_iconst C (v := 2) dX8_isPurpose_5 (by decide) ?_
    refine wa_icmp_gt C (tgt := 13) dX8_isPurpose_6 (by decide) h (fun h => ?_) (fun h => ?_)
    · exact WA.weak (hJ13  h) trivial
    · refine wa_iconst C (v := 1) dX8_isPurpose_9 (by decide) ?_
      refine wa_goto C (tgt := 14) dX8_isPurpose_10 (by decide) ?_
      exact wa_zret C hv rfl rfl dX8_isPurpose_14 h

set_option maxRecDepth 20000 in
theorem ok_X8_order {l : Launch} {E : fp_E} {x1 : Int32} {g : fp_G} {K : Int32 → fp_G → Prop} (h : w_X8_order x1 g K) : fp_M l E yX8_order cX8_order 3 ((Option.some Jvm.ClassFile.FieldType.int)) false 33 [.ref 0, .int x1] g K := by
  unfold w_X8_order at h
  refine fp_enter rfl [some (.ref 0), some (.int x1), none] (Nat.le_of_ble_eq_true rfl) (fun q hq => hq) (fun Z hE hl hv hK hn hd C => ?_)
  subst hE hl hK
  refine wa_iload_n C (i := 1) dX8_order_0 rfl rfl ?_
  refine wa_callSi C s_X8_178 t_X8_isPurpose dX8_order_1 (ok_X8_isPurpose h) rfl rfl (Nat.le_of_ble_eq_true rfl) (by rw [hd]; decide) (fun v1 g1 h => ?_)
  refine wa_if_ne C (tgt := 14) dX8_order_4 (by decide) h (fun h => ?_) (fun h => ?_)
  · refine wa_aload_n C (i := 0) dX8_order_7 rfl rfl ?_
    refine wa_bipush C (v := (-2)) dX8_order_8 (by decide) ?_
    refine wa_callVi C lq_0 sh_0 rfl s_X8_59 i_X8_refuse e_X8_refuse dX8_order_10 (ok_X8_refuse h) rfl rfl (Nat.le_of_ble_eq_true rfl) (by rw [hd]; decide) (fun v4 g4 h => ?_)
    exact wa_iret C hv rfl dX8_order_13 h
  · refine wa_aload_n C (i := 0) dX8_order_14 rfl rfl ?_
    refine wa_getR C (j := 3) lq_0 sh_0 rfl in_X8 (by decide) rfl f_X8_30 dX8_order_15 ?_
    refine wa_getI C (j := 6) lq_29 sh_29 rfl in_X3 (by decide) rfl f_X8_181 dX8_order_18 ?_
    refine wa_bipush C (v := 30) dX8_order_21 (by decide) ?_
    refine wa_icmp_lt C (tgt := 33) dX8_order_23 (by decide) h (fun h => ?_) (fun h => ?_)
    · refine wa_aload_n C (i := 0) dX8_order_33 rfl rfl ?_
      refine wa_getR C (j := 3) lq_0 sh_0 rfl in_X8 (by decide) rfl f_X8_30 dX8_order_34 ?_
      refine wa_iload_n C (i := 1) dX8_order_37 rfl rfl ?_
      refine wa_aload_n C (i := 0) dX8_order_38 rfl rfl ?_
      refine wa_getI C (j := 9) lq_0 sh_0 rfl in_X8 (by decide) rfl f_X8_95 dX8_order_39 ?_
      refine wa_callVi C lq_29 sh_29 rfl s_X8_182 i_X3_addOrder e_X3_addOrder dX8_order_42 (ok_X3_addOrder h) rfl rfl (Nat.le_of_ble_eq_true rfl) (by rw [hd]; decide) (fun v2 g2 h => ?_)
      refine wa_istore_n C (i := 2) dX8_order_45 rfl (by rw [hn]; decide) rfl rfl ?_
      refine wa_iload_n C (i := 2) dX8_order_46 rfl rfl ?_
      refine wa_if_ge C (tgt := 60) dX8_order_47 (by decide) h (fun h => ?_) (fun h => ?_)
      · refine wa_bipush C (v := (-20)) dX8_order_60 (by decide) ?_
        refine wa_iload_n C (i := 2) dX8_order_62 rfl rfl ?_
        refine wa_isub C dX8_order_63 ?_
        exact wa_iret C hv rfl dX8_order_64 h
      · refine wa_aload_n C (i := 0) dX8_order_50 rfl rfl ?_
        refine wa_getR C (j := 3) lq_0 sh_0 rfl in_X8 (by decide) rfl f_X8_30 dX8_order_51 ?_
        refine wa_getI C (j := 6) lq_29 sh_29 rfl in_X3 (by decide) rfl f_X8_181 dX8_order_54 ?_
        refine wa_goto C (tgt := 64) dX8_order_57 (by decide) ?_
        exact wa_iret C hv rfl dX8_order_64 h
    · refine wa_aload_n C (i := 0) dX8_order_26 rfl rfl ?_
      refine wa_bipush C (v := (-6)) dX8_order_27 (by decide) ?_
      refine wa_callVi C lq_0 sh_0 rfl s_X8_59 i_X8_refuse e_X8_refuse dX8_order_29 (ok_X8_refuse h) rfl rfl (Nat.le_of_ble_eq_true rfl) (by rw [hd]; decide) (fun v3 g3 h => ?_)
      exact wa_iret C hv rfl dX8_order_32 h

set_option maxRecDepth 20000 in
theorem ok_X8_notAtOffice {l : Launch} {E : fp_E} {x1 : Int32} {g : fp_G} {K : Int32 → fp_G → Prop} (h : w_X8_notAtOffice x1 g K) : fp_M l E yX8_notAtOffice cX8_notAtOffice 2 ((Option.some Jvm.ClassFile.FieldType.int)) false 2 [.ref 0, .int x1] g K := by
  unfold w_X8_notAtOffice at h
  refine fp_enter rfl [some (.ref 0), some (.int x1)] (Nat.le_of_ble_eq_true rfl) (fun q hq => hq) (fun Z hE hl hv hK hn hd C => ?_)
  subst hE hl hK
  refine wa_aload_n C (i := 0) dX8_notAtOffice_0 rfl rfl ?_
  refine wa_getR C (j := 4) lq_0 sh_0 rfl in_X8 (by decide) rfl f_X8_35 dX8_notAtOffice_1 ?_
  refine wa_iload_n C (i := 1) dX8_notAtOffice_4 rfl rfl ?_
  refine wa_callVi C lq_37 sh_37 rfl s_X8_202 i_X1_has e_X1_has dX8_notAtOffice_5 (ok_X1_has h) rfl rfl (Nat.le_of_ble_eq_true rfl) (by rw [hd]; decide) (fun v1 g1 h => ?_)
  refine wa_if_ne C (tgt := 13) dX8_notAtOffice_8 (by decide) h (fun h => ?_) (fun h => ?_)
  · refine wa_iconst C (v := (-1)) dX8_notAtOffice_11 (by decide) ?_
    exact wa_iret C hv rfl dX8_notAtOffice_12 h
  · refine wa_aload_n C (i := 0) dX8_notAtOffice_13 rfl rfl ?_
    refine wa_getR C (j := 5) lq_0 sh_0 rfl in_X8 (by decide) rfl f_X8_41 dX8_notAtOffice_14 ?_
    refine wa_getR C (j := 0) lq_43 sh_43 rfl in_X0 (by decide) rfl f_X8_208 dX8_notAtOffice_17 ?_
    refine wa_iload_n C (i := 1) dX8_notAtOffice_20 rfl rfl ?_
    refine wa_iald C lq_44 sh_44 dX8_notAtOffice_21 h (fun v2 h => ?_)
    refine wa_if_ne C (tgt := 29) dX8_notAtOffice_22 (by decide) h (fun h => ?_) (fun h => ?_)
    · refine wa_iconst C (v := 0) dX8_notAtOffice_25 (by decide) ?_
      refine wa_goto C (tgt := 31) dX8_notAtOffice_26 (by decide) ?_
      exact wa_iret C hv rfl dX8_notAtOffice_31 h
    · refine wa_bipush C (v := (-3)) dX8_notAtOffice_29 (by decide) ?_
      exact wa_iret C hv rfl dX8_notAtOffice_31 h

set_option maxRecDepth 20000 in
theorem ok_X8_holds {l : Launch} {E : fp_E} {x1 : Int32} {x2 : Int32} {g : fp_G} {K : Int32 → fp_G → Prop} (h : w_X8_holds x1 x2 g K) : fp_M l E yX8_holds cX8_holds 4 ((Option.some Jvm.ClassFile.FieldType.int)) false 5 [.ref 0, .int x1, .int x2] g K := by
  unfold w_X8_holds at h
  refine fp_enter rfl [some (.ref 0), some (.int x1), some (.int x2), none] (Nat.le_of_ble_eq_true rfl) (fun q hq => hq) (fun Z hE hl hv hK hn hd C => ?_)
  subst hE hl hK
  refine wa_iload_n C (i := 1) dX8_holds_0 rfl rfl ?_
  refine wa_callSi C s_X8_178 t_X8_isPurpose dX8_holds_1 (ok_X8_isPurpose h) rfl rfl (Nat.le_of_ble_eq_true rfl) (by rw [hd]; decide) (fun v1 g1 h => ?_)
  refine wa_if_ne C (tgt := 14) dX8_holds_4 (by decide) h (fun h => ?_) (fun h => ?_)
  · refine wa_aload_n C (i := 0) dX8_holds_7 rfl rfl ?_
    refine wa_bipush C (v := (-2)) dX8_holds_8 (by decide) ?_
    refine wa_callVi C lq_0 sh_0 rfl s_X8_59 i_X8_refuse e_X8_refuse dX8_holds_10 (ok_X8_refuse h) rfl rfl (Nat.le_of_ble_eq_true rfl) (by rw [hd]; decide) (fun v7 g6 h => ?_)
    exact wa_iret C hv rfl dX8_holds_13 h
  · refine wa_aload_n C (i := 0) dX8_holds_14 rfl rfl ?_
    refine wa_iload_n C (i := 2) dX8_holds_15 rfl rfl ?_
    refine wa_callVi C lq_0 sh_0 rfl s_X8_185 i_X8_notAtOffice e_X8_notAtOffice dX8_holds_16 (ok_X8_notAtOffice h) rfl rfl (Nat.le_of_ble_eq_true rfl) (by rw [hd]; decide) (fun v2 g2 h => ?_)
    refine wa_istore_n C (i := 3) dX8_holds_19 rfl (by rw [hn]; decide) rfl rfl ?_
    refine wa_iload_n C (i := 3) dX8_holds_20 rfl rfl ?_
    refine wa_if_ge C (tgt := 30) dX8_holds_21 (by decide) h (fun h => ?_) (fun h => ?_)
    · refine wa_aload_n C (i := 0) dX8_holds_30 rfl rfl ?_
      refine wa_getR C (j := 0) lq_0 sh_0 rfl in_X8 (by decide) rfl f_X8_10 dX8_holds_31 ?_
      refine wa_aload_n C (i := 0) dX8_holds_34 rfl rfl ?_
      refine wa_getR C (j := 5) lq_0 sh_0 rfl in_X8 (by decide) rfl f_X8_41 dX8_holds_35 ?_
      refine wa_iload_n C (i := 2) dX8_holds_38 rfl rfl ?_
      refine wa_aload_n C (i := 0) dX8_holds_39 rfl rfl ?_
      refine wa_getI C (j := 9) lq_0 sh_0 rfl in_X8 (by decide) rfl f_X8_95 dX8_holds_40 ?_
      refine wa_callVv C lq_2 sh_2 rfl s_X8_188 i_X4_takeFacts e_X4_takeFacts dX8_holds_43 (ok_X4_takeFacts isC_43 h) rfl rfl (Nat.le_of_ble_eq_true rfl) (by rw [hd]; decide) (fun g3 h => ?_)
      refine wa_aload_n C (i := 0) dX8_holds_46 rfl rfl ?_
      refine wa_getR C (j := 0) lq_0 sh_0 rfl in_X8 (by decide) rfl f_X8_10 dX8_holds_47 ?_
      refine wa_iload_n C (i := 1) dX8_holds_50 rfl rfl ?_
      refine wa_aload_n C (i := 0) dX8_holds_51 rfl rfl ?_
      refine wa_getR C (j := 5) lq_0 sh_0 rfl in_X8 (by decide) rfl f_X8_41 dX8_holds_52 ?_
      refine wa_getR C (j := 1) lq_43 sh_43 rfl in_X0 (by decide) rfl f_X8_192 dX8_holds_55 ?_
      refine wa_iload_n C (i := 2) dX8_holds_58 rfl rfl ?_
      refine wa_iald C lq_45 sh_45 dX8_holds_59 h (fun v4 h => ?_)
      refine wa_aload_n C (i := 0) dX8_holds_60 rfl rfl ?_
      refine wa_getI C (j := 9) lq_0 sh_0 rfl in_X8 (by decide) rfl f_X8_95 dX8_holds_61 ?_
      refine wa_callVi C lq_2 sh_2 rfl s_X8_195 i_X4_purposeHolds e_X4_purposeHolds dX8_holds_64 (ok_X4_purposeHolds h) rfl rfl (Nat.le_of_ble_eq_true rfl) (by rw [hd]; decide) (fun v5 g4 h => ?_)
      refine wa_if_eq C (tgt := 74) dX8_holds_67 (by decide) h (fun h => ?_) (fun h => ?_)
      · refine wa_iconst C (v := 0) dX8_holds_74 (by decide) ?_
        exact wa_iret C hv rfl dX8_holds_75 h
      · refine wa_iconst C (v := 1) dX8_holds_70 (by decide) ?_
        refine wa_goto C (tgt := 75) dX8_holds_71 (by decide) ?_
        exact wa_iret C hv rfl dX8_holds_75 h
    · refine wa_aload_n C (i := 0) dX8_holds_24 rfl rfl ?_
      refine wa_iload_n C (i := 3) dX8_holds_25 rfl rfl ?_
      refine wa_callVi C lq_0 sh_0 rfl s_X8_59 i_X8_refuse e_X8_refuse dX8_holds_26 (ok_X8_refuse h) rfl rfl (Nat.le_of_ble_eq_true rfl) (by rw [hd]; decide) (fun v6 g5 h => ?_)
      exact wa_iret C hv rfl dX8_holds_29 h

set_option maxRecDepth 20000 in
theorem ok_X8_keep {l : Launch} {E : fp_E} {x1 : Int32} {g : fp_G} {K : Int32 → fp_G → Prop} (h : w_X8_keep x1 g K) : fp_M l E yX8_keep cX8_keep 4 ((Option.some Jvm.ClassFile.FieldType.int)) false 2 [.ref 0, .int x1] g K := by
  unfold w_X8_keep at h
  refine fp_enter rfl [some (.ref 0), some (.int x1), none, none] (Nat.le_of_ble_eq_true rfl) (fun q hq => hq) (fun Z hE hl hv hK hn hd C => ?_)
  subst hE hl hK
  refine wa_iload_n C (i := 1) dX8_keep_0 rfl rfl ?_
  refine wa_iconst C (v := 1) dX8_keep_1 (by decide) ?_
  refine wa_sipush C (v := 999) dX8_keep_2 (by decide) ?_
  refine wa_callSi C s_X8_77 t_X8_outside dX8_keep_5 (ok_X8_outside h) rfl rfl (Nat.le_of_ble_eq_true rfl) (by rw [hd]; decide) (fun v1 g1 h => ?_)
  refine wa_istore_n C (i := 2) dX8_keep_8 rfl (by rw [hn]; decide) rfl rfl ?_
  refine wa_iload_n C (i := 2) dX8_keep_9 rfl rfl ?_
  refine wa_if_ge C (tgt := 19) dX8_keep_10 (by decide) h (fun h => ?_) (fun h => ?_)
  · refine wa_aload_n C (i := 0) dX8_keep_19 rfl rfl ?_
    refine wa_getR C (j := 0) lq_0 sh_0 rfl in_X8 (by decide) rfl f_X8_10 dX8_keep_20 ?_
    refine wa_getI C (j := 7) lq_2 sh_2 rfl in_X4 (by decide) rfl f_X8_199 dX8_keep_23 ?_
    refine wa_istore_n C (i := 3) dX8_keep_26 rfl (by rw [hn]; decide) rfl rfl ?_
    refine wa_aload_n C (i := 0) dX8_keep_27 rfl rfl ?_
    refine wa_getR C (j := 0) lq_0 sh_0 rfl in_X8 (by decide) rfl f_X8_10 dX8_keep_28 ?_
    refine wa_iload_n C (i := 1) dX8_keep_31 rfl rfl ?_
    refine wa_putI C (j := 7) lq_2 sh_2 rfl in_X4 (by decide) tyX4 tyX4_ok nmX4 rfl rfl rfl f_X8_199 dX8_keep_32 h (fun g2 h => ?_)
    refine wa_iload_n C (i := 3) dX8_keep_35 rfl rfl ?_
    exact wa_iret C hv rfl dX8_keep_36 h
  · refine wa_aload_n C (i := 0) dX8_keep_13 rfl rfl ?_
    refine wa_iload_n C (i := 2) dX8_keep_14 rfl rfl ?_
    refine wa_callVi C lq_0 sh_0 rfl s_X8_59 i_X8_refuse e_X8_refuse dX8_keep_15 (ok_X8_refuse h) rfl rfl (Nat.le_of_ble_eq_true rfl) (by rw [hd]; decide) (fun v2 g3 h => ?_)
    exact wa_iret C hv rfl dX8_keep_18 h

set_option maxRecDepth 20000 in
theorem ok_X8_mailOf {l : Launch} {E : fp_E} {x1 : Int32} {x2 : Int32} {g : fp_G} {K : Int32 → fp_G → Prop} (h : w_X8_mailOf x1 x2 g K) : fp_M l E yX8_mailOf cX8_mailOf 3 ((Option.some Jvm.ClassFile.FieldType.int)) false 2 [.ref 0, .int x1, .int x2] g K := by
  unfold w_X8_mailOf at h
  refine fp_enter rfl [some (.ref 0), some (.int x1), some (.int x2)] (Nat.le_of_ble_eq_true rfl) (fun q hq => hq) (fun Z hE hl hv hK hn hd C => ?_)
  subst hE hl hK
  refine wa_aload_n C (i := 0) dX8_mailOf_0 rfl rfl ?_
  refine wa_getR C (j := 4) lq_0 sh_0 rfl in_X8 (by decide) rfl f_X8_35 dX8_mailOf_1 ?_
  refine wa_iload_n C (i := 1) dX8_mailOf_4 rfl rfl ?_
  refine wa_callVi C lq_37 sh_37 rfl s_X8_202 i_X1_has e_X1_has dX8_mailOf_5 (ok_X1_has h) rfl rfl (Nat.le_of_ble_eq_true rfl) (by rw [hd]; decide) (fun v1 g1 h => ?_)
  refine wa_if_ne C (tgt := 17) dX8_mailOf_8 (by decide) h (fun h => ?_) (fun h => ?_)
  · refine wa_aload_n C (i := 0) dX8_mailOf_11 rfl rfl ?_
    refine wa_iconst C (v := (-1)) dX8_mailOf_12 (by decide) ?_
    refine wa_callVi C lq_0 sh_0 rfl s_X8_59 i_X8_refuse e_X8_refuse dX8_mailOf_13 (ok_X8_refuse h) rfl rfl (Nat.le_of_ble_eq_true rfl) (by rw [hd]; decide) (fun v11 g3 h => ?_)
    exact wa_iret C hv rfl dX8_mailOf_16 h
  · refine wa_iload_n C (i := 2) dX8_mailOf_17 rfl rfl ?_
    refine fp_sw h (fun e0 h => ?_) (fun e0 h => ?_)
    · refine wa_tsIn C (tgt := 64) dX8_mailOf_18 e0 (by decide) (by decide) rfl (by decide) ?_
      refine wa_aload_n C (i := 0) dX8_mailOf_64 rfl rfl ?_
      refine wa_getR C (j := 4) lq_0 sh_0 rfl in_X8 (by decide) rfl f_X8_35 dX8_mailOf_65 ?_
      refine wa_getR C (j := 0) lq_37 sh_37 rfl in_X1 (by decide) rfl f_X8_205 dX8_mailOf_68 ?_
      refine wa_iload_n C (i := 1) dX8_mailOf_71 rfl rfl ?_
      refine wa_iald C lq_38 sh_38 dX8_mailOf_72 h (fun v2 h => ?_)
      exact wa_iret C hv rfl dX8_mailOf_73 h
    refine fp_sw h (fun e1 h => ?_) (fun e1 h => ?_)
    · refine wa_tsIn C (tgt := 74) dX8_mailOf_18 e1 (by decide) (by decide) rfl (by decide) ?_
      refine wa_aload_n C (i := 0) dX8_mailOf_74 rfl rfl ?_
      refine wa_getR C (j := 5) lq_0 sh_0 rfl in_X8 (by decide) rfl f_X8_41 dX8_mailOf_75 ?_
      refine wa_getR C (j := 0) lq_43 sh_43 rfl in_X0 (by decide) rfl f_X8_208 dX8_mailOf_78 ?_
      refine wa_iload_n C (i := 1) dX8_mailOf_81 rfl rfl ?_
      refine wa_iald C lq_44 sh_44 dX8_mailOf_82 h (fun v3 h => ?_)
      exact wa_iret C hv rfl dX8_mailOf_83 h
    refine fp_sw h (fun e2 h => ?_) (fun e2 h => ?_)
    · refine wa_tsIn C (tgt := 84) dX8_mailOf_18 e2 (by decide) (by decide) rfl (by decide) ?_
      refine wa_aload_n C (i := 0) dX8_mailOf_84 rfl rfl ?_
      refine wa_getR C (j := 5) lq_0 sh_0 rfl in_X8 (by decide) rfl f_X8_41 dX8_mailOf_85 ?_
      refine wa_getR C (j := 1) lq_43 sh_43 rfl in_X0 (by decide) rfl f_X8_192 dX8_mailOf_88 ?_
      refine wa_iload_n C (i := 1) dX8_mailOf_91 rfl rfl ?_
      refine wa_iald C lq_45 sh_45 dX8_mailOf_92 h (fun v4 h => ?_)
      exact wa_iret C hv rfl dX8_mailOf_93 h
    refine fp_sw h (fun e3 h => ?_) (fun e3 h => ?_)
    · refine wa_tsIn C (tgt := 94) dX8_mailOf_18 e3 (by decide) (by decide) rfl (by decide) ?_
      refine wa_aload_n C (i := 0) dX8_mailOf_94 rfl rfl ?_
      refine wa_getR C (j := 5) lq_0 sh_0 rfl in_X8 (by decide) rfl f_X8_41 dX8_mailOf_95 ?_
      refine wa_getR C (j := 2) lq_43 sh_43 rfl in_X0 (by decide) rfl f_X8_211 dX8_mailOf_98 ?_
      refine wa_iload_n C (i := 1) dX8_mailOf_101 rfl rfl ?_
      refine wa_iald C lq_46 sh_46 dX8_mailOf_102 h (fun v5 h => ?_)
      exact wa_iret C hv rfl dX8_mailOf_103 h
    refine fp_sw h (fun e4 h => ?_) (fun e4 h => ?_)
    · refine wa_tsIn C (tgt := 104) dX8_mailOf_18 e4 (by decide) (by decide) rfl (by decide) ?_
      refine wa_aload_n C (i := 0) dX8_mailOf_104 rfl rfl ?_
      refine wa_getR C (j := 5) lq_0 sh_0 rfl in_X8 (by decide) rfl f_X8_41 dX8_mailOf_105 ?_
      refine wa_getR C (j := 3) lq_43 sh_43 rfl in_X0 (by decide) rfl f_X8_214 dX8_mailOf_108 ?_
      refine wa_iload_n C (i := 1) dX8_mailOf_111 rfl rfl ?_
      refine wa_zald C lq_47 sh_47 dX8_mailOf_112 h (fun v6 h => ?_)
      refine wa_if_eq C (tgt := 120) dX8_mailOf_113 (by decide) h (fun h => ?_) (fun h => ?_)
      · refine wa_iconst C (v := 0) dX8_mailOf_120 (by decide) ?_
        exact wa_iret C hv rfl dX8_mailOf_121 h
      · refine wa_iconst C (v := 1) dX8_mailOf_116 (by decide) ?_
        refine wa_goto C (tgt := 121) dX8_mailOf_117 (by decide) ?_
        exact wa_iret C hv rfl dX8_mailOf_121 h
    refine fp_sw h (fun e5 h => ?_) (fun e5 h => ?_)
    · refine wa_tsIn C (tgt := 122) dX8_mailOf_18 e5 (by decide) (by decide) rfl (by decide) ?_
      refine wa_aload_n C (i := 0) dX8_mailOf_122 rfl rfl ?_
      refine wa_getR C (j := 5) lq_0 sh_0 rfl in_X8 (by decide) rfl f_X8_41 dX8_mailOf_123 ?_
      refine wa_getR C (j := 4) lq_43 sh_43 rfl in_X0 (by decide) rfl f_X8_218 dX8_mailOf_126 ?_
      refine wa_iload_n C (i := 1) dX8_mailOf_129 rfl rfl ?_
      refine wa_iald C lq_48 sh_48 dX8_mailOf_130 h (fun v7 h => ?_)
      exact wa_iret C hv rfl dX8_mailOf_131 h
    refine fp_sw h (fun e6 h => ?_) (fun e6 h => ?_)
    · refine wa_tsIn C (tgt := 132) dX8_mailOf_18 e6 (by decide) (by decide) rfl (by decide) ?_
      refine wa_aload_n C (i := 0) dX8_mailOf_132 rfl rfl ?_
      refine wa_getR C (j := 5) lq_0 sh_0 rfl in_X8 (by decide) rfl f_X8_41 dX8_mailOf_133 ?_
      refine wa_getR C (j := 5) lq_43 sh_43 rfl in_X0 (by decide) rfl f_X8_221 dX8_mailOf_136 ?_
      refine wa_iload_n C (i := 1) dX8_mailOf_139 rfl rfl ?_
      refine wa_iald C lq_49 sh_49 dX8_mailOf_140 h (fun v8 h => ?_)
      exact wa_iret C hv rfl dX8_mailOf_141 h
    refine fp_sw h (fun e7 h => ?_) (fun e7 h => ?_)
    · refine wa_tsIn C (tgt := 142) dX8_mailOf_18 e7 (by decide) (by decide) rfl (by decide) ?_
      refine wa_aload_n C (i := 0) dX8_mailOf_142 rfl rfl ?_
      refine wa_getR C (j := 5) lq_0 sh_0 rfl in_X8 (by decide) rfl f_X8_41 dX8_mailOf_143 ?_
      refine wa_getR C (j := 6) lq_43 sh_43 rfl in_X0 (by decide) rfl f_X8_224 dX8_mailOf_146 ?_
      refine wa_iload_n C (i := 1) dX8_mailOf_149 rfl rfl ?_
      refine wa_zald C lq_50 sh_50 dX8_mailOf_150 h (fun v9 h => ?_)
      refine wa_if_eq C (tgt := 158) dX8_mailOf_151 (by decide) h (fun h => ?_) (fun h => ?_)
      · refine wa_iconst C (v := 0) dX8_mailOf_158 (by decide) ?_
        exact wa_iret C hv rfl dX8_mailOf_159 h
      · refine wa_iconst C (v := 1) dX8_mailOf_154 (by decide) ?_
        refine wa_goto C (tgt := 159) dX8_mailOf_155 (by decide) ?_
        exact wa_iret C hv rfl dX8_mailOf_159 h
    have z0 := fp_ne (k := 0) (by decide) e0
    have z1 := fp_ne (k := 1) (by decide) e1
    have z2 := fp_ne (k := 2) (by decide) e2
    have z3 := fp_ne (k := 3) (by decide) e3
    have z4 := fp_ne (k := 4) (by decide) e4
    have z5 := fp_ne (k := 5) (by decide) e5
    have z6 := fp_ne (k := 6) (by decide) e6
    have z7 := fp_ne (k := 7) (by decide) e7
    refine wa_tsOut C (tgt := 160) dX8_mailOf_18 (by omega) (by decide) ?_
    refine wa_aload_n C (i := 0) dX8_mailOf_160 rfl rfl ?_
    refine wa_bipush C (v := (-2)) dX8_mailOf_161 (by decide) ?_
    refine wa_callVi C lq_0 sh_0 rfl s_X8_59 i_X8_refuse e_X8_refuse dX8_mailOf_163 (ok_X8_refuse h) rfl rfl (Nat.le_of_ble_eq_true rfl) (by rw [hd]; decide) (fun v10 g2 h => ?_)
    exact wa_iret C hv rfl dX8_mailOf_166 h

set_option maxRecDepth 20000 in
theorem ok_X8_goal {l : Launch} {E : fp_E} {x1 : Int32} {g : fp_G} {K : Int32 → fp_G → Prop} (h : w_X8_goal x1 g K) : fp_M l E yX8_goal cX8_goal 3 ((Option.some Jvm.ClassFile.FieldType.int)) false 4 [.ref 0, .int x1] g K := by
  unfold w_X8_goal at h
  refine fp_enter rfl [some (.ref 0), some (.int x1), none] (Nat.le_of_ble_eq_true rfl) (fun q hq => hq) (fun Z hE hl hv hK hn hd C => ?_)
  subst hE hl hK
  refine wa_aload_n C (i := 0) dX8_goal_0 rfl rfl ?_
  refine wa_iload_n C (i := 1) dX8_goal_1 rfl rfl ?_
  refine wa_callVi C lq_0 sh_0 rfl s_X8_185 i_X8_notAtOffice e_X8_notAtOffice dX8_goal_2 (ok_X8_notAtOffice h) rfl rfl (Nat.le_of_ble_eq_true rfl) (by rw [hd]; decide) (fun v1 g1 h => ?_)
  refine wa_istore_n C (i := 2) dX8_goal_5 rfl (by rw [hn]; decide) rfl rfl ?_
  refine wa_iload_n C (i := 2) dX8_goal_6 rfl rfl ?_
  refine wa_if_ge C (tgt := 18) dX8_goal_7 (by decide) h (fun h => ?_) (fun h => ?_)
  · refine wa_aload_n C (i := 0) dX8_goal_18 rfl rfl ?_
    refine wa_getR C (j := 0) lq_0 sh_0 rfl in_X8 (by decide) rfl f_X8_10 dX8_goal_19 ?_
    refine wa_aload_n C (i := 0) dX8_goal_22 rfl rfl ?_
    refine wa_getR C (j := 5) lq_0 sh_0 rfl in_X8 (by decide) rfl f_X8_41 dX8_goal_23 ?_
    refine wa_iload_n C (i := 1) dX8_goal_26 rfl rfl ?_
    refine wa_aload_n C (i := 0) dX8_goal_27 rfl rfl ?_
    refine wa_getI C (j := 9) lq_0 sh_0 rfl in_X8 (by decide) rfl f_X8_95 dX8_goal_28 ?_
    refine wa_callVi C lq_2 sh_2 rfl s_X8_227 i_X4_goalOf e_X4_goalOf dX8_goal_31 (ok_X4_goalOf isC_43 h) rfl rfl (Nat.le_of_ble_eq_true rfl) (by rw [hd]; decide) (fun v2 g2 h => ?_)
    exact wa_iret C hv rfl dX8_goal_34 h
  · refine wa_aload_n C (i := 0) dX8_goal_10 rfl rfl ?_
    refine wa_iload_n C (i := 2) dX8_goal_11 rfl rfl ?_
    refine wa_callVi C lq_0 sh_0 rfl s_X8_59 i_X8_refuse e_X8_refuse dX8_goal_12 (ok_X8_refuse h) rfl rfl (Nat.le_of_ble_eq_true rfl) (by rw [hd]; decide) (fun v3 g3 h => ?_)
    refine wa_goto C (tgt := 34) dX8_goal_15 (by decide) ?_
    exact wa_iret C hv rfl dX8_goal_34 h
