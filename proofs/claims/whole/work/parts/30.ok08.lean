set_option maxRecDepth 20000 in
theorem ok_X9_out {l : Launch} {E : fp_E} {x0 : Int64} {x2 : Int64} {x4 : Int64} {g : fp_G} {K : Int32 → fp_G → Prop} (h : w_X9_out x0 x2 x4 g K) : fp_M l E yX9_out cX9_out 6 ((Option.some Jvm.ClassFile.FieldType.int)) false 1 [.long x0, .long x2, .long x4] g K := by
  unfold w_X9_out at h
  refine fp_enter rfl [some (.long x0), none, some (.long x2), none, some (.long x4), none] (Nat.le_of_ble_eq_true rfl) (fun q hq => hq) (fun Z hE hl hv hK hn hd C => ?_)
  subst hE hl hK
  refine wa_lload_n C (i := 0) dX9_out_0 rfl rfl ?_
  refine wa_lload_n C (i := 2) dX9_out_1 rfl rfl ?_
  refine wa_lcmp C dX9_out_2 ?_
  refine wa_if_ge C (tgt := 11) dX9_out_3 (by decide) h (fun h => ?_) (fun h => ?_)
  · refine wa_lload_n C (i := 0) dX9_out_11 rfl rfl ?_
    refine wa_lload C dX9_out_12 rfl ?_
    refine wa_lcmp C dX9_out_14 ?_
    refine wa_if_le C (tgt := 23) dX9_out_15 (by decide) h (fun h => ?_) (fun h => ?_)
    · refine wa_iconst C (v := 0) dX9_out_23 (by decide) ?_
      exact wa_iret C hv rfl dX9_out_24 h
    · refine wa_bipush C (v := (-6)) dX9_out_18 (by decide) ?_
      refine wa_goto C (tgt := 24) dX9_out_20 (by decide) ?_
      exact wa_iret C hv rfl dX9_out_24 h
  · refine wa_bipush C (v := (-4)) dX9_out_6 (by decide) ?_
    refine wa_goto C (tgt := 24) dX9_out_8 (by decide) ?_
    exact wa_iret C hv rfl dX9_out_24 h

set_option maxRecDepth 20000 in
theorem ok_X9_isOffice {l : Launch} {E : fp_E} {x1 : Int32} {g : fp_G} {K : Int32 → fp_G → Prop} (h : w_X9_isOffice x1 g K) : fp_M l E yX9_isOffice cX9_isOffice 2 ((Option.some Jvm.ClassFile.FieldType.boolean)) false 1 [.ref 67, .int x1] g K := by
  unfold w_X9_isOffice at h
  refine fp_enter rfl [some (.ref 67), some (.int x1)] (Nat.le_of_ble_eq_true rfl) (fun q hq => hq) (fun Z hE hl hv hK hn hd C => ?_)
  subst hE hl hK
  refine wa_iload_n C (i := 1) dX9_isOffice_0 rfl rfl ?_
  refine fp_k0 (Q := WA Z 16 [none, none] [] g) h (fun  h => ?_) (fun J16 hJ16 h => ?_)
  · refine wa_iconst C (v := 0) dX9_isOffice_16 (by decide) ?_
    exact wa_zret C hv rfl rfl dX9_isOffice_17 h
  refine wa_if_lt C (tgt := 16) dX9_isOffice_1 (by decide) h (fun h => ?_) (fun h => ?_)
  · exact WA.weak (hJ16  h) trivial
  · refine wa_iload_n C (i := 1) dX9_isOffice_4 rfl rfl ?_
    refine wa_aload_n C (i := 0) dX9_isOffice_5 rfl rfl ?_
    refine wa_getI C (j := 12) lq_67 sh_67 rfl in_X9 (by decide) rfl f_X9_183 dX9_isOffice_6 ?_
    refine wa_icmp_ge C (tgt := 16) dX9_isOffice_9 (by decide) h (fun h => ?_) (fun h => ?_)
    · exact WA.weak (hJ16  h) trivial
    · refine wa_iconst C (v := 1) dX9_isOffice_12 (by decide) ?_
      refine wa_goto C (tgt := 17) dX9_isOffice_13 (by decide) ?_
      exact wa_zret C hv rfl rfl dX9_isOffice_17 h

set_option maxRecDepth 20000 in
theorem ok_X9_office {l : Launch} {E : fp_E} {x1 : Int32} {x2 : Int32} {g : fp_G} {K : Int32 → fp_G → Prop} (h : w_X9_office x1 x2 g K) : fp_M l E yX9_office cX9_office 4 ((Option.some Jvm.ClassFile.FieldType.int)) false 2 [.ref 67, .int x1, .int x2] g K := by
  unfold w_X9_office at h
  refine fp_enter rfl [some (.ref 67), some (.int x1), some (.int x2), none] (Nat.le_of_ble_eq_true rfl) (fun q hq => hq) (fun Z hE hl hv hK hn hd C => ?_)
  subst hE hl hK
  refine wa_iload_n C (i := 1) dX9_office_0 rfl rfl ?_
  refine wa_i2l C dX9_office_1 ?_
  refine wa_lconst C (v := 0) dX9_office_2 (by decide) ?_
  refine wa_ldc2 C (v := 99) k_X9_186 dX9_office_3 ?_
  refine wa_callSi C s_X9_188 t_X9_out dX9_office_6 (ok_X9_out h) rfl rfl (Nat.le_of_ble_eq_true rfl) (by rw [hd]; decide) (fun v1 g1 h => ?_)
  refine wa_istore_n C (i := 3) dX9_office_9 rfl (by rw [hn]; decide) rfl rfl ?_
  refine wa_iload_n C (i := 3) dX9_office_10 rfl rfl ?_
  refine fp_k1 (Q := fun x3j26 => WA Z 26 [some (.ref 67), some (.int x1), some (.int x2), some (.int x3j26)] [] g1) h (fun x3j26 h => ?_) (fun J26 hJ26 h => ?_)
  · refine wa_iload_n C (i := 3) dX9_office_26 rfl rfl ?_
    refine wa_if_eq C (tgt := 36) dX9_office_27 (by decide) h (fun h => ?_) (fun h => ?_)
    · refine wa_aload_n C (i := 0) dX9_office_36 rfl rfl ?_
      refine wa_getR C (j := 1) lq_67 sh_67 rfl in_X9 (by decide) rfl f_X9_13 dX9_office_37 ?_
      refine wa_aload_n C (i := 0) dX9_office_40 rfl rfl ?_
      refine wa_getI C (j := 12) lq_67 sh_67 rfl in_X9 (by decide) rfl f_X9_183 dX9_office_41 ?_
      refine wa_iload_n C (i := 1) dX9_office_44 rfl rfl ?_
      refine wa_iast C lq_69 sh_69 dX9_office_45 h (fun g2 h => ?_)
      refine wa_aload_n C (i := 0) dX9_office_46 rfl rfl ?_
      refine wa_getR C (j := 11) lq_67 sh_67 rfl in_X9 (by decide) rfl f_X9_43 dX9_office_47 ?_
      refine wa_aload_n C (i := 0) dX9_office_50 rfl rfl ?_
      refine wa_getI C (j := 12) lq_67 sh_67 rfl in_X9 (by decide) rfl f_X9_183 dX9_office_51 ?_
      refine wa_iload_n C (i := 2) dX9_office_54 rfl rfl ?_
      refine wa_zast C lq_79 sh_79 dX9_office_55 h (fun g3 h => ?_)
      refine wa_aload_n C (i := 0) dX9_office_56 rfl rfl ?_
      refine wa_dup C dX9_office_57 rfl ?_
      refine wa_getI C (j := 12) lq_67 sh_67 rfl in_X9 (by decide) rfl f_X9_183 dX9_office_58 ?_
      refine wa_iconst C (v := 1) dX9_office_61 (by decide) ?_
      refine wa_iadd C dX9_office_62 ?_
      refine wa_putI C (j := 12) lq_67 sh_67 rfl in_X9 (by decide) tyX9 tyX9_ok nmX9 rfl rfl rfl f_X9_183 dX9_office_63 h (fun g4 h => ?_)
      refine wa_aload_n C (i := 0) dX9_office_66 rfl rfl ?_
      refine wa_getI C (j := 12) lq_67 sh_67 rfl in_X9 (by decide) rfl f_X9_183 dX9_office_67 ?_
      refine wa_iconst C (v := 1) dX9_office_70 (by decide) ?_
      refine wa_isub C dX9_office_71 ?_
      exact wa_iret C hv rfl dX9_office_72 h
    · refine wa_aload_n C (i := 0) dX9_office_30 rfl rfl ?_
      refine wa_iload_n C (i := 3) dX9_office_31 rfl rfl ?_
      refine wa_callVi C lq_67 sh_67 rfl s_X9_192 i_X9_no e_X9_no dX9_office_32 (ok_X9_no h) rfl rfl (Nat.le_of_ble_eq_true rfl) (by rw [hd]; decide) (fun v2 g5 h => ?_)
      exact wa_iret C hv rfl dX9_office_35 h
  refine wa_if_ne C (tgt := 26) dX9_office_11 (by decide) h (fun h => ?_) (fun h => ?_)
  · refine wa_aload_n C (i := 0) dX9_office_14 rfl rfl ?_
    refine wa_getI C (j := 12) lq_67 sh_67 rfl in_X9 (by decide) rfl f_X9_183 dX9_office_15 ?_
    refine wa_bipush C (v := 12) dX9_office_18 (by decide) ?_
    refine wa_icmp_ne C (tgt := 26) dX9_office_20 (by decide) h (fun h => ?_) (fun h => ?_)
    · refine wa_bipush C (v := (-6)) dX9_office_23 (by decide) ?_
      refine wa_istore_n C (i := 3) dX9_office_25 rfl (by rw [hn]; decide) rfl rfl ?_
      exact WA.weak (hJ26 _ h) ⟨rfl, ⟨rfl, ⟨rfl, ⟨rfl, trivial⟩⟩⟩⟩
    · exact WA.weak (hJ26 _ h) ⟨rfl, ⟨rfl, ⟨rfl, ⟨rfl, trivial⟩⟩⟩⟩
  · exact WA.weak (hJ26 _ h) ⟨rfl, ⟨rfl, ⟨rfl, ⟨rfl, trivial⟩⟩⟩⟩

set_option maxRecDepth 20000 in
theorem ok_X9_staff {l : Launch} {E : fp_E} {x1 : Int32} {x2 : Int32} {x3 : Int32} {g : fp_G} {K : Int32 → fp_G → Prop} (h : w_X9_staff x1 x2 x3 g K) : fp_M l E yX9_staff cX9_staff 6 ((Option.some Jvm.ClassFile.FieldType.int)) false 2 [.ref 67, .int x1, .int x2, .int x3] g K := by
  unfold w_X9_staff at h
  refine fp_enter rfl [some (.ref 67), some (.int x1), some (.int x2), some (.int x3), none, none] (Nat.le_of_ble_eq_true rfl) (fun q hq => hq) (fun Z hE hl hv hK hn hd C => ?_)
  subst hE hl hK
  refine wa_aload_n C (i := 0) dX9_staff_0 rfl rfl ?_
  refine wa_iload_n C (i := 1) dX9_staff_1 rfl rfl ?_
  refine wa_callVi C lq_67 sh_67 rfl s_X9_196 i_X9_isOffice e_X9_isOffice dX9_staff_2 (ok_X9_isOffice h) rfl rfl (Nat.le_of_ble_eq_true rfl) (by rw [hd]; decide) (fun v1 g1 h => ?_)
  refine wa_if_ne C (tgt := 14) dX9_staff_5 (by decide) h (fun h => ?_) (fun h => ?_)
  · refine wa_aload_n C (i := 0) dX9_staff_8 rfl rfl ?_
    refine wa_iconst C (v := (-1)) dX9_staff_9 (by decide) ?_
    refine wa_callVi C lq_67 sh_67 rfl s_X9_192 i_X9_no e_X9_no dX9_staff_10 (ok_X9_no h) rfl rfl (Nat.le_of_ble_eq_true rfl) (by rw [hd]; decide) (fun v5 g6 h => ?_)
    exact wa_iret C hv rfl dX9_staff_13 h
  · refine wa_iload_n C (i := 2) dX9_staff_14 rfl rfl ?_
    refine wa_i2l C dX9_staff_15 ?_
    refine wa_lconst C (v := 0) dX9_staff_16 (by decide) ?_
    refine wa_ldc2 C (v := 99) k_X9_186 dX9_staff_17 ?_
    refine wa_callSi C s_X9_188 t_X9_out dX9_staff_20 (ok_X9_out h) rfl rfl (Nat.le_of_ble_eq_true rfl) (by rw [hd]; decide) (fun v2 g2 h => ?_)
    refine wa_istore C (i := 4) dX9_staff_23 (by rw [hn]; decide) rfl rfl ?_
    refine wa_iload C dX9_staff_25 rfl ?_
    refine wa_if_eq C (tgt := 37) dX9_staff_27 (by decide) h (fun h => ?_) (fun h => ?_)
    · refine wa_aload_n C (i := 0) dX9_staff_37 rfl rfl ?_
      refine wa_getR C (j := 1) lq_67 sh_67 rfl in_X9 (by decide) rfl f_X9_13 dX9_staff_38 ?_
      refine wa_iload_n C (i := 1) dX9_staff_41 rfl rfl ?_
      refine wa_iald C lq_69 sh_69 dX9_staff_42 h (fun v3 h => ?_)
      refine wa_istore C (i := 5) dX9_staff_43 (by rw [hn]; decide) rfl rfl ?_
      refine wa_aload_n C (i := 0) dX9_staff_45 rfl rfl ?_
      refine wa_getR C (j := 1) lq_67 sh_67 rfl in_X9 (by decide) rfl f_X9_13 dX9_staff_46 ?_
      refine wa_iload_n C (i := 1) dX9_staff_49 rfl rfl ?_
      refine wa_iload_n C (i := 2) dX9_staff_50 rfl rfl ?_
      refine wa_iast C lq_69 sh_69 dX9_staff_51 h (fun g3 h => ?_)
      refine wa_aload_n C (i := 0) dX9_staff_52 rfl rfl ?_
      refine wa_getR C (j := 11) lq_67 sh_67 rfl in_X9 (by decide) rfl f_X9_43 dX9_staff_53 ?_
      refine wa_iload_n C (i := 1) dX9_staff_56 rfl rfl ?_
      refine wa_iload_n C (i := 3) dX9_staff_57 rfl rfl ?_
      refine wa_zast C lq_79 sh_79 dX9_staff_58 h (fun g4 h => ?_)
      refine wa_iload C dX9_staff_59 rfl ?_
      exact wa_iret C hv rfl dX9_staff_61 h
    · refine wa_aload_n C (i := 0) dX9_staff_30 rfl rfl ?_
      refine wa_iload C dX9_staff_31 rfl ?_
      refine wa_callVi C lq_67 sh_67 rfl s_X9_192 i_X9_no e_X9_no dX9_staff_33 (ok_X9_no h) rfl rfl (Nat.le_of_ble_eq_true rfl) (by rw [hd]; decide) (fun v4 g5 h => ?_)
      exact wa_iret C hv rfl dX9_staff_36 h

set_option maxRecDepth 20000 in
theorem ok_X9_way {l : Launch} {E : fp_E} {x1 : Int32} {x2 : Int32} {x3 : Int32} {x4 : Int32} {x5 : Int32} {g : fp_G} {K : Int32 → fp_G → Prop} (h : w_X9_way x1 x2 x3 x4 x5 g K) : fp_M l E yX9_way cX9_way 7 ((Option.some Jvm.ClassFile.FieldType.int)) false 2 [.ref 67, .int x1, .int x2, .int x3, .int x4, .int x5] g K := by
  unfold w_X9_way at h
  refine fp_enter rfl [some (.ref 67), some (.int x1), some (.int x2), some (.int x3), some (.int x4), some (.int x5), none] (Nat.le_of_ble_eq_true rfl) (fun q hq => hq) (fun Z hE hl hv hK hn hd C => ?_)
  subst hE hl hK
  refine wa_aload_n C (i := 0) dX9_way_0 rfl rfl ?_
  refine wa_iload_n C (i := 1) dX9_way_1 rfl rfl ?_
  refine wa_callVi C lq_67 sh_67 rfl s_X9_196 i_X9_isOffice e_X9_isOffice dX9_way_2 (ok_X9_isOffice h) rfl rfl (Nat.le_of_ble_eq_true rfl) (by rw [hd]; decide) (fun v1 g1 h => ?_)
  refine fp_j0 (Q := fun g2 => WA Z 21 [some (.ref 67), none, none, none, none, none, none] [] g2) h (fun g2 h => ?_) (fun J21 hJ21 h => ?_)
  · refine wa_aload_n C (i := 0) dX9_way_21 rfl rfl ?_
    refine wa_iconst C (v := (-1)) dX9_way_22 (by decide) ?_
    refine wa_callVi C lq_67 sh_67 rfl s_X9_192 i_X9_no e_X9_no dX9_way_23 (ok_X9_no h) rfl rfl (Nat.le_of_ble_eq_true rfl) (by rw [hd]; decide) (fun v2 g3 h => ?_)
    exact wa_iret C hv rfl dX9_way_26 h
  refine wa_if_eq C (tgt := 21) dX9_way_5 (by decide) h (fun h => ?_) (fun h => ?_)
  · exact WA.weak (hJ21 _ h) ⟨rfl, trivial⟩
  · refine wa_aload_n C (i := 0) dX9_way_8 rfl rfl ?_
    refine wa_iload_n C (i := 2) dX9_way_9 rfl rfl ?_
    refine wa_callVi C lq_67 sh_67 rfl s_X9_196 i_X9_isOffice e_X9_isOffice dX9_way_10 (ok_X9_isOffice h) rfl rfl (Nat.le_of_ble_eq_true rfl) (by rw [hd]; decide) (fun v3 g4 h => ?_)
    refine wa_if_eq C (tgt := 21) dX9_way_13 (by decide) h (fun h => ?_) (fun h => ?_)
    · exact WA.weak (hJ21 _ h) ⟨rfl, trivial⟩
    · refine wa_iload_n C (i := 1) dX9_way_16 rfl rfl ?_
      refine wa_iload_n C (i := 2) dX9_way_17 rfl rfl ?_
      refine wa_icmp_ne C (tgt := 27) dX9_way_18 (by decide) h (fun h => ?_) (fun h => ?_)
      · exact WA.weak (hJ21 _ h) ⟨rfl, trivial⟩
      · refine wa_iload_n C (i := 3) dX9_way_27 rfl rfl ?_
        refine wa_iconst C (v := 1) dX9_way_28 (by decide) ?_
        refine fp_k1 (Q := fun z0j84 => WA Z 84 [some (.ref 67), some (.int x1), some (.int x2), some (.int x3), some (.int x4), some (.int x5), none] [.int z0j84] g4) h (fun z0j84 h => ?_) (fun J84 hJ84 h => ?_)
        · refine wa_istore C (i := 6) dX9_way_84 (by rw [hn]; decide) rfl rfl ?_
          refine wa_iload C dX9_way_86 rfl ?_
          refine wa_if_eq C (tgt := 98) dX9_way_88 (by decide) h (fun h => ?_) (fun h => ?_)
          · refine wa_aload_n C (i := 0) dX9_way_98 rfl rfl ?_
            refine wa_getR C (j := 2) lq_67 sh_67 rfl in_X9 (by decide) rfl f_X9_16 dX9_way_99 ?_
            refine wa_aload_n C (i := 0) dX9_way_102 rfl rfl ?_
            refine wa_getI C (j := 13) lq_67 sh_67 rfl in_X9 (by decide) rfl f_X9_200 dX9_way_103 ?_
            refine wa_iload_n C (i := 1) dX9_way_106 rfl rfl ?_
            refine wa_iast C lq_70 sh_70 dX9_way_107 h (fun g5 h => ?_)
            refine wa_aload_n C (i := 0) dX9_way_108 rfl rfl ?_
            refine wa_getR C (j := 3) lq_67 sh_67 rfl in_X9 (by decide) rfl f_X9_19 dX9_way_109 ?_
            refine wa_aload_n C (i := 0) dX9_way_112 rfl rfl ?_
            refine wa_getI C (j := 13) lq_67 sh_67 rfl in_X9 (by decide) rfl f_X9_200 dX9_way_113 ?_
            refine wa_iload_n C (i := 2) dX9_way_116 rfl rfl ?_
            refine wa_iast C lq_71 sh_71 dX9_way_117 h (fun g6 h => ?_)
            refine wa_aload_n C (i := 0) dX9_way_118 rfl rfl ?_
            refine wa_getR C (j := 4) lq_67 sh_67 rfl in_X9 (by decide) rfl f_X9_22 dX9_way_119 ?_
            refine wa_aload_n C (i := 0) dX9_way_122 rfl rfl ?_
            refine wa_getI C (j := 13) lq_67 sh_67 rfl in_X9 (by decide) rfl f_X9_200 dX9_way_123 ?_
            refine wa_iload_n C (i := 3) dX9_way_126 rfl rfl ?_
            refine wa_iast C lq_72 sh_72 dX9_way_127 h (fun g7 h => ?_)
            refine wa_aload_n C (i := 0) dX9_way_128 rfl rfl ?_
            refine wa_getR C (j := 5) lq_67 sh_67 rfl in_X9 (by decide) rfl f_X9_25 dX9_way_129 ?_
            refine wa_aload_n C (i := 0) dX9_way_132 rfl rfl ?_
            refine wa_getI C (j := 13) lq_67 sh_67 rfl in_X9 (by decide) rfl f_X9_200 dX9_way_133 ?_
            refine wa_iload C dX9_way_136 rfl ?_
            refine wa_iast C lq_73 sh_73 dX9_way_138 h (fun g8 h => ?_)
            refine wa_aload_n C (i := 0) dX9_way_139 rfl rfl ?_
            refine wa_getR C (j := 6) lq_67 sh_67 rfl in_X9 (by decide) rfl f_X9_28 dX9_way_140 ?_
            refine wa_aload_n C (i := 0) dX9_way_143 rfl rfl ?_
            refine wa_getI C (j := 13) lq_67 sh_67 rfl in_X9 (by decide) rfl f_X9_200 dX9_way_144 ?_
            refine wa_iload C dX9_way_147 rfl ?_
            refine wa_iast C lq_74 sh_74 dX9_way_149 h (fun g9 h => ?_)
            refine wa_aload_n C (i := 0) dX9_way_150 rfl rfl ?_
            refine wa_dup C dX9_way_151 rfl ?_
            refine wa_getI C (j := 13) lq_67 sh_67 rfl in_X9 (by decide) rfl f_X9_200 dX9_way_152 ?_
            refine wa_iconst C (v := 1) dX9_way_155 (by decide) ?_
            refine wa_iadd C dX9_way_156 ?_
            refine wa_putI C (j := 13) lq_67 sh_67 rfl in_X9 (by decide) tyX9 tyX9_ok nmX9 rfl rfl rfl f_X9_200 dX9_way_157 h (fun g10 h => ?_)
            refine wa_aload_n C (i := 0) dX9_way_160 rfl rfl ?_
            refine wa_getI C (j := 13) lq_67 sh_67 rfl in_X9 (by decide) rfl f_X9_200 dX9_way_161 ?_
            refine wa_iconst C (v := 1) dX9_way_164 (by decide) ?_
            refine wa_isub C dX9_way_165 ?_
            exact wa_iret C hv rfl dX9_way_166 h
          · refine wa_aload_n C (i := 0) dX9_way_91 rfl rfl ?_
            refine wa_iload C dX9_way_92 rfl ?_
            refine wa_callVi C lq_67 sh_67 rfl s_X9_192 i_X9_no e_X9_no dX9_way_94 (ok_X9_no h) rfl rfl (Nat.le_of_ble_eq_true rfl) (by rw [hd]; decide) (fun v4 g11 h => ?_)
            exact wa_iret C hv rfl dX9_way_97 h
        refine fp_k0 (Q := WA Z 43 [some (.ref 67), some (.int x1), some (.int x2), some (.int x3), some (.int x4), some (.int x5), none] [] g4) h (fun  h => ?_) (fun J43 hJ43 h => ?_)
        · refine wa_bipush C (v := (-4)) dX9_way_43 (by decide) ?_
          refine wa_goto C (tgt := 84) dX9_way_45 (by decide) ?_
          exact WA.weak (hJ84 _ h) ⟨rfl, ⟨rfl, ⟨rfl, ⟨rfl, ⟨rfl, ⟨rfl, trivial⟩⟩⟩⟩⟩⟩
        refine wa_icmp_lt C (tgt := 43) dX9_way_29 (by decide) h (fun h => ?_) (fun h => ?_)
        · exact WA.weak (hJ43  h) ⟨rfl, ⟨rfl, ⟨rfl, ⟨rfl, ⟨rfl, ⟨rfl, trivial⟩⟩⟩⟩⟩⟩
        · refine wa_iload C dX9_way_32 rfl ?_
          refine wa_if_lt C (tgt := 43) dX9_way_34 (by decide) h (fun h => ?_) (fun h => ?_)
          · exact WA.weak (hJ43  h) ⟨rfl, ⟨rfl, ⟨rfl, ⟨rfl, ⟨rfl, ⟨rfl, trivial⟩⟩⟩⟩⟩⟩
          · refine wa_iload C dX9_way_37 rfl ?_
            refine wa_iconst C (v := 1) dX9_way_39 (by decide) ?_
            refine wa_icmp_ge C (tgt := 48) dX9_way_40 (by decide) h (fun h => ?_) (fun h => ?_)
            · refine wa_iload_n C (i := 3) dX9_way_48 rfl rfl ?_
              refine wa_bipush C (v := 48) dX9_way_49 (by decide) ?_
              refine fp_k0 (Q := WA Z 78 [some (.ref 67), some (.int x1), some (.int x2), some (.int x3), some (.int x4), some (.int x5), none] [] g4) h (fun  h => ?_) (fun J78 hJ78 h => ?_)
              · refine wa_bipush C (v := (-6)) dX9_way_78 (by decide) ?_
                refine wa_goto C (tgt := 84) dX9_way_80 (by decide) ?_
                exact WA.weak (hJ84 _ h) ⟨rfl, ⟨rfl, ⟨rfl, ⟨rfl, ⟨rfl, ⟨rfl, trivial⟩⟩⟩⟩⟩⟩
              refine wa_icmp_gt C (tgt := 78) dX9_way_51 (by decide) h (fun h => ?_) (fun h => ?_)
              · exact WA.weak (hJ78  h) ⟨rfl, ⟨rfl, ⟨rfl, ⟨rfl, ⟨rfl, ⟨rfl, trivial⟩⟩⟩⟩⟩⟩
              · refine wa_iload C dX9_way_54 rfl ?_
                refine wa_sipush C (v := 2000) dX9_way_56 (by decide) ?_
                refine wa_icmp_gt C (tgt := 78) dX9_way_59 (by decide) h (fun h => ?_) (fun h => ?_)
                · exact WA.weak (hJ78  h) ⟨rfl, ⟨rfl, ⟨rfl, ⟨rfl, ⟨rfl, ⟨rfl, trivial⟩⟩⟩⟩⟩⟩
                · refine wa_iload C dX9_way_62 rfl ?_
                  refine wa_bipush C (v := 48) dX9_way_64 (by decide) ?_
                  refine wa_icmp_gt C (tgt := 78) dX9_way_66 (by decide) h (fun h => ?_) (fun h => ?_)
                  · exact WA.weak (hJ78  h) ⟨rfl, ⟨rfl, ⟨rfl, ⟨rfl, ⟨rfl, ⟨rfl, trivial⟩⟩⟩⟩⟩⟩
                  · refine wa_aload_n C (i := 0) dX9_way_69 rfl rfl ?_
                    refine wa_getI C (j := 13) lq_67 sh_67 rfl in_X9 (by decide) rfl f_X9_200 dX9_way_70 ?_
                    refine wa_bipush C (v := 24) dX9_way_73 (by decide) ?_
                    refine wa_icmp_ne C (tgt := 83) dX9_way_75 (by decide) h (fun h => ?_) (fun h => ?_)
                    · exact WA.weak (hJ78  h) ⟨rfl, ⟨rfl, ⟨rfl, ⟨rfl, ⟨rfl, ⟨rfl, trivial⟩⟩⟩⟩⟩⟩
                    · refine wa_iconst C (v := 0) dX9_way_83 (by decide) ?_
                      exact WA.weak (hJ84 _ h) ⟨rfl, ⟨rfl, ⟨rfl, ⟨rfl, ⟨rfl, ⟨rfl, trivial⟩⟩⟩⟩⟩⟩
            · exact WA.weak (hJ43  h) ⟨rfl, ⟨rfl, ⟨rfl, ⟨rfl, ⟨rfl, ⟨rfl, trivial⟩⟩⟩⟩⟩⟩

set_option maxRecDepth 20000 in
theorem ok_X9_shut {l : Launch} {E : fp_E} {x1 : Int32} {x2 : Int32} {x3 : Int32} {g : fp_G} {K : Int32 → fp_G → Prop} (h : w_X9_shut x1 x2 x3 g K) : fp_M l E yX9_shut cX9_shut 5 ((Option.some Jvm.ClassFile.FieldType.int)) false 2 [.ref 67, .int x1, .int x2, .int x3] g K := by
  unfold w_X9_shut at h
  refine fp_enter rfl [some (.ref 67), some (.int x1), some (.int x2), some (.int x3), none] (Nat.le_of_ble_eq_true rfl) (fun q hq => hq) (fun Z hE hl hv hK hn hd C => ?_)
  subst hE hl hK
  refine wa_iload_n C (i := 1) dX9_shut_0 rfl rfl ?_
  refine wa_i2l C dX9_shut_1 ?_
  refine wa_lconst C (v := 0) dX9_shut_2 (by decide) ?_
  refine wa_aload_n C (i := 0) dX9_shut_3 rfl rfl ?_
  refine wa_getI C (j := 13) lq_67 sh_67 rfl in_X9 (by decide) rfl f_X9_200 dX9_shut_4 ?_
  refine wa_iconst C (v := 1) dX9_shut_7 (by decide) ?_
  refine wa_isub C dX9_shut_8 ?_
  refine wa_i2l C dX9_shut_9 ?_
  refine wa_callSi C s_X9_203 t_X9_isIn dX9_shut_10 (ok_X9_isIn h) rfl rfl (Nat.le_of_ble_eq_true rfl) (by rw [hd]; decide) (fun v1 g1 h => ?_)
  refine wa_if_ne C (tgt := 22) dX9_shut_13 (by decide) h (fun h => ?_) (fun h => ?_)
  · refine wa_aload_n C (i := 0) dX9_shut_16 rfl rfl ?_
    refine wa_iconst C (v := (-1)) dX9_shut_17 (by decide) ?_
    refine wa_callVi C lq_67 sh_67 rfl s_X9_192 i_X9_no e_X9_no dX9_shut_18 (ok_X9_no h) rfl rfl (Nat.le_of_ble_eq_true rfl) (by rw [hd]; decide) (fun v3 g7 h => ?_)
    exact wa_iret C hv rfl dX9_shut_21 h
  · refine wa_iload_n C (i := 2) dX9_shut_22 rfl rfl ?_
    refine wa_aload_n C (i := 0) dX9_shut_23 rfl rfl ?_
    refine wa_getI C (j := 15) lq_67 sh_67 rfl in_X9 (by decide) rfl f_X9_207 dX9_shut_24 ?_
    refine fp_k1 (Q := fun z0j69 => WA Z 69 [some (.ref 67), some (.int x1), some (.int x2), some (.int x3), none] [.int z0j69] g1) h (fun z0j69 h => ?_) (fun J69 hJ69 h => ?_)
    · refine wa_istore C (i := 4) dX9_shut_69 (by rw [hn]; decide) rfl rfl ?_
      refine wa_iload C dX9_shut_71 rfl ?_
      refine wa_if_eq C (tgt := 83) dX9_shut_73 (by decide) h (fun h => ?_) (fun h => ?_)
      · refine wa_aload_n C (i := 0) dX9_shut_83 rfl rfl ?_
        refine wa_getR C (j := 7) lq_67 sh_67 rfl in_X9 (by decide) rfl f_X9_31 dX9_shut_84 ?_
        refine wa_aload_n C (i := 0) dX9_shut_87 rfl rfl ?_
        refine wa_getI C (j := 14) lq_67 sh_67 rfl in_X9 (by decide) rfl f_X9_210 dX9_shut_88 ?_
        refine wa_iload_n C (i := 1) dX9_shut_91 rfl rfl ?_
        refine wa_iast C lq_75 sh_75 dX9_shut_92 h (fun g2 h => ?_)
        refine wa_aload_n C (i := 0) dX9_shut_93 rfl rfl ?_
        refine wa_getR C (j := 8) lq_67 sh_67 rfl in_X9 (by decide) rfl f_X9_34 dX9_shut_94 ?_
        refine wa_aload_n C (i := 0) dX9_shut_97 rfl rfl ?_
        refine wa_getI C (j := 14) lq_67 sh_67 rfl in_X9 (by decide) rfl f_X9_210 dX9_shut_98 ?_
        refine wa_iload_n C (i := 2) dX9_shut_101 rfl rfl ?_
        refine wa_iast C lq_76 sh_76 dX9_shut_102 h (fun g3 h => ?_)
        refine wa_aload_n C (i := 0) dX9_shut_103 rfl rfl ?_
        refine wa_getR C (j := 9) lq_67 sh_67 rfl in_X9 (by decide) rfl f_X9_37 dX9_shut_104 ?_
        refine wa_aload_n C (i := 0) dX9_shut_107 rfl rfl ?_
        refine wa_getI C (j := 14) lq_67 sh_67 rfl in_X9 (by decide) rfl f_X9_210 dX9_shut_108 ?_
        refine wa_iload_n C (i := 3) dX9_shut_111 rfl rfl ?_
        refine wa_iast C lq_77 sh_77 dX9_shut_112 h (fun g4 h => ?_)
        refine wa_aload_n C (i := 0) dX9_shut_113 rfl rfl ?_
        refine wa_dup C dX9_shut_114 rfl ?_
        refine wa_getI C (j := 14) lq_67 sh_67 rfl in_X9 (by decide) rfl f_X9_210 dX9_shut_115 ?_
        refine wa_iconst C (v := 1) dX9_shut_118 (by decide) ?_
        refine wa_iadd C dX9_shut_119 ?_
        refine wa_putI C (j := 14) lq_67 sh_67 rfl in_X9 (by decide) tyX9 tyX9_ok nmX9 rfl rfl rfl f_X9_210 dX9_shut_120 h (fun g5 h => ?_)
        refine wa_aload_n C (i := 0) dX9_shut_123 rfl rfl ?_
        refine wa_getI C (j := 14) lq_67 sh_67 rfl in_X9 (by decide) rfl f_X9_210 dX9_shut_124 ?_
        exact wa_iret C hv rfl dX9_shut_127 h
      · refine wa_aload_n C (i := 0) dX9_shut_76 rfl rfl ?_
        refine wa_iload C dX9_shut_77 rfl ?_
        refine wa_callVi C lq_67 sh_67 rfl s_X9_192 i_X9_no e_X9_no dX9_shut_79 (ok_X9_no h) rfl rfl (Nat.le_of_ble_eq_true rfl) (by rw [hd]; decide) (fun v2 g6 h => ?_)
        exact wa_iret C hv rfl dX9_shut_82 h
    refine fp_k0 (Q := WA Z 35 [some (.ref 67), some (.int x1), some (.int x2), some (.int x3), none] [] g1) h (fun  h => ?_) (fun J35 hJ35 h => ?_)
    · refine wa_bipush C (v := (-4)) dX9_shut_35 (by decide) ?_
      refine wa_goto C (tgt := 69) dX9_shut_37 (by decide) ?_
      exact WA.weak (hJ69 _ h) ⟨rfl, ⟨rfl, ⟨rfl, ⟨rfl, trivial⟩⟩⟩⟩
    refine wa_icmp_lt C (tgt := 35) dX9_shut_27 (by decide) h (fun h => ?_) (fun h => ?_)
    · exact WA.weak (hJ35  h) ⟨rfl, ⟨rfl, ⟨rfl, ⟨rfl, trivial⟩⟩⟩⟩
    · refine wa_iload_n C (i := 3) dX9_shut_30 rfl rfl ?_
      refine wa_iload_n C (i := 2) dX9_shut_31 rfl rfl ?_
      refine wa_icmp_ge C (tgt := 40) dX9_shut_32 (by decide) h (fun h => ?_) (fun h => ?_)
      · refine wa_iload_n C (i := 2) dX9_shut_40 rfl rfl ?_
        refine wa_sipush C (v := 2000) dX9_shut_41 (by decide) ?_
        refine fp_k0 (Q := WA Z 63 [some (.ref 67), some (.int x1), some (.int x2), some (.int x3), none] [] g1) h (fun  h => ?_) (fun J63 hJ63 h => ?_)
        · refine wa_bipush C (v := (-6)) dX9_shut_63 (by decide) ?_
          refine wa_goto C (tgt := 69) dX9_shut_65 (by decide) ?_
          exact WA.weak (hJ69 _ h) ⟨rfl, ⟨rfl, ⟨rfl, ⟨rfl, trivial⟩⟩⟩⟩
        refine wa_icmp_gt C (tgt := 63) dX9_shut_44 (by decide) h (fun h => ?_) (fun h => ?_)
        · exact WA.weak (hJ63  h) ⟨rfl, ⟨rfl, ⟨rfl, ⟨rfl, trivial⟩⟩⟩⟩
        · refine wa_iload_n C (i := 3) dX9_shut_47 rfl rfl ?_
          refine wa_sipush C (v := 2000) dX9_shut_48 (by decide) ?_
          refine wa_icmp_gt C (tgt := 63) dX9_shut_51 (by decide) h (fun h => ?_) (fun h => ?_)
          · exact WA.weak (hJ63  h) ⟨rfl, ⟨rfl, ⟨rfl, ⟨rfl, trivial⟩⟩⟩⟩
          · refine wa_aload_n C (i := 0) dX9_shut_54 rfl rfl ?_
            refine wa_getI C (j := 14) lq_67 sh_67 rfl in_X9 (by decide) rfl f_X9_210 dX9_shut_55 ?_
            refine wa_bipush C (v := 40) dX9_shut_58 (by decide) ?_
            refine wa_icmp_ne C (tgt := 68) dX9_shut_60 (by decide) h (fun h => ?_) (fun h => ?_)
            · exact WA.weak (hJ63  h) ⟨rfl, ⟨rfl, ⟨rfl, ⟨rfl, trivial⟩⟩⟩⟩
            · refine wa_iconst C (v := 0) dX9_shut_68 (by decide) ?_
              exact WA.weak (hJ69 _ h) ⟨rfl, ⟨rfl, ⟨rfl, ⟨rfl, trivial⟩⟩⟩⟩
      · exact WA.weak (hJ35  h) ⟨rfl, ⟨rfl, ⟨rfl, ⟨rfl, trivial⟩⟩⟩⟩

set_option maxRecDepth 20000 in
theorem ok_X9_leaves_32 {Z : fp_Z} (C : fp_C Z cX9_leaves RX9 ((Option.some Jvm.ClassFile.FieldType.boolean))) (hv : fp_V Z false) (hn : Z.2.2.2.2.1 = 4) (hd : Z.2.2.2.2.2.1 = 2) {x1 : Int32} {x2 : Int32} : ∀ (n : Nat) (x3 : Int32) (g : fp_G), w_X9_leaves_32 n x1 x2 x3 g Z.2.2.2.1 → WA Z 32 [some (.ref 67), some (.int x1), some (.int x2), some (.int x3)] [] g := by
  intro n
  induction n with
  | zero => intro x3 g h; exact h.elim
  | succ n ih =>
    intro x3 g h
    rw [w_X9_leaves_32] at h
    refine wa_iload_n C (i := 3) dX9_leaves_32 rfl rfl ?_
    refine wa_aload_n C (i := 0) dX9_leaves_33 rfl rfl ?_
    refine wa_getI C (j := 14) lq_67 sh_67 rfl in_X9 (by decide) rfl f_X9_210 dX9_leaves_34 ?_
    refine wa_icmp_ge C (tgt := 80) dX9_leaves_37 (by decide) h (fun h => ?_) (fun h => ?_)
    · refine wa_iconst C (v := 1) dX9_leaves_80 (by decide) ?_
      exact wa_zret C hv rfl rfl dX9_leaves_81 h
    · refine wa_aload_n C (i := 0) dX9_leaves_40 rfl rfl ?_
      refine wa_getR C (j := 7) lq_67 sh_67 rfl in_X9 (by decide) rfl f_X9_31 dX9_leaves_41 ?_
      refine wa_iload_n C (i := 3) dX9_leaves_44 rfl rfl ?_
      refine wa_iald C lq_75 sh_75 dX9_leaves_45 h (fun v4 h => ?_)
      refine wa_iload_n C (i := 1) dX9_leaves_46 rfl rfl ?_
      refine fp_j0 (Q := fun g1 => WA Z 74 [some (.ref 67), some (.int x1), some (.int x2), some (.int x3)] [] g1) h (fun g1 h => ?_) (fun J74 hJ74 h => ?_)
      · refine wa_iinc C (i := 3) dX9_leaves_74 rfl (fp_inc1 _) (by rw [hn]; decide) rfl rfl ?_
        refine wa_goto C (tgt := 32) dX9_leaves_77 (by decide) ?_
        exact WA.weak (ih _ _ h) ⟨rfl, ⟨rfl, ⟨rfl, ⟨rfl, trivial⟩⟩⟩⟩
      refine wa_icmp_ne C (tgt := 74) dX9_leaves_47 (by decide) h (fun h => ?_) (fun h => ?_)
      · refine wa_iload_n C (i := 2) dX9_leaves_50 rfl rfl ?_
        refine wa_i2l C dX9_leaves_51 ?_
        refine wa_aload_n C (i := 0) dX9_leaves_52 rfl rfl ?_
        refine wa_getR C (j := 8) lq_67 sh_67 rfl in_X9 (by decide) rfl f_X9_34 dX9_leaves_53 ?_
        refine wa_iload_n C (i := 3) dX9_leaves_56 rfl rfl ?_
        refine wa_iald C lq_76 sh_76 dX9_leaves_57 h (fun v5 h => ?_)
        refine wa_i2l C dX9_leaves_58 ?_
        refine wa_aload_n C (i := 0) dX9_leaves_59 rfl rfl ?_
        refine wa_getR C (j := 9) lq_67 sh_67 rfl in_X9 (by decide) rfl f_X9_37 dX9_leaves_60 ?_
        refine wa_iload_n C (i := 3) dX9_leaves_63 rfl rfl ?_
        refine wa_iald C lq_77 sh_77 dX9_leaves_64 h (fun v6 h => ?_)
        refine wa_i2l C dX9_leaves_65 ?_
        refine wa_callSi C s_X9_203 t_X9_isIn dX9_leaves_66 (ok_X9_isIn h) rfl rfl (Nat.le_of_ble_eq_true rfl) (by rw [hd]; decide) (fun v7 g2 h => ?_)
        refine wa_if_eq C (tgt := 74) dX9_leaves_69 (by decide) h (fun h => ?_) (fun h => ?_)
        · exact WA.weak (hJ74 _ h) ⟨rfl, ⟨rfl, ⟨rfl, ⟨rfl, trivial⟩⟩⟩⟩
        · refine wa_iconst C (v := 0) dX9_leaves_72 (by decide) ?_
          exact wa_zret C hv rfl rfl dX9_leaves_73 h
      · exact WA.weak (hJ74 _ h) ⟨rfl, ⟨rfl, ⟨rfl, ⟨rfl, trivial⟩⟩⟩⟩

set_option maxRecDepth 20000 in
theorem ok_X9_leaves {l : Launch} {E : fp_E} {x1 : Int32} {x2 : Int32} {g : fp_G} {K : Int32 → fp_G → Prop} (h : w_X9_leaves x1 x2 g K) : fp_M l E yX9_leaves cX9_leaves 4 ((Option.some Jvm.ClassFile.FieldType.boolean)) false 2 [.ref 67, .int x1, .int x2] g K := by
  unfold w_X9_leaves at h
  refine fp_enter rfl [some (.ref 67), some (.int x1), some (.int x2), none] (Nat.le_of_ble_eq_true rfl) (fun q hq => hq) (fun Z hE hl hv hK hn hd C => ?_)
  subst hE hl hK
  refine wa_iload_n C (i := 2) dX9_leaves_0 rfl rfl ?_
  refine wa_aload_n C (i := 0) dX9_leaves_1 rfl rfl ?_
  refine wa_getR C (j := 5) lq_67 sh_67 rfl in_X9 (by decide) rfl f_X9_25 dX9_leaves_2 ?_
  refine wa_iload_n C (i := 1) dX9_leaves_5 rfl rfl ?_
  refine wa_iald C lq_73 sh_73 dX9_leaves_6 h (fun v1 h => ?_)
  refine wa_icmp_lt C (tgt := 28) dX9_leaves_7 (by decide) h (fun h => ?_) (fun h => ?_)
  · refine wa_iconst C (v := 0) dX9_leaves_28 (by decide) ?_
    exact wa_zret C hv rfl rfl dX9_leaves_29 h
  · refine wa_iload_n C (i := 2) dX9_leaves_10 rfl rfl ?_
    refine wa_aload_n C (i := 0) dX9_leaves_11 rfl rfl ?_
    refine wa_getR C (j := 5) lq_67 sh_67 rfl in_X9 (by decide) rfl f_X9_25 dX9_leaves_12 ?_
    refine wa_iload_n C (i := 1) dX9_leaves_15 rfl rfl ?_
    refine wa_iald C lq_73 sh_73 dX9_leaves_16 h (fun v2 h => ?_)
    refine wa_isub C dX9_leaves_17 ?_
    refine wa_aload_n C (i := 0) dX9_leaves_18 rfl rfl ?_
    refine wa_getR C (j := 6) lq_67 sh_67 rfl in_X9 (by decide) rfl f_X9_28 dX9_leaves_19 ?_
    refine wa_iload_n C (i := 1) dX9_leaves_22 rfl rfl ?_
    refine wa_iald C lq_74 sh_74 dX9_leaves_23 h (fun v3 h => ?_)
    refine wa_irem C dX9_leaves_24 h (fun h => ?_)
    refine wa_if_eq C (tgt := 30) dX9_leaves_25 (by decide) h (fun h => ?_) (fun h => ?_)
    · refine wa_iconst C (v := 0) dX9_leaves_30 (by decide) ?_
      refine wa_istore_n C (i := 3) dX9_leaves_31 rfl (by rw [hn]; decide) rfl rfl ?_
      obtain ⟨n32, h⟩ := h
      exact WA.weak (ok_X9_leaves_32 C hv hn hd n32 _ _ h) ⟨rfl, ⟨rfl, ⟨rfl, ⟨rfl, trivial⟩⟩⟩⟩
    · refine wa_iconst C (v := 0) dX9_leaves_28 (by decide) ?_
      exact wa_zret C hv rfl rfl dX9_leaves_29 h

set_option maxRecDepth 20000 in
theorem ok_X9_findFar_56 {Z : fp_Z} (C : fp_C Z cX9_findFar RX9 ((Option.none : Option Jvm.ClassFile.FieldType))) (hv : fp_V Z true) (hn : Z.2.2.2.2.1 = 6) (hd : Z.2.2.2.2.2.1 = 1) {x1 : Int32} {x2 : Int32} {E186 : fp_G → Prop} (hE186 : ∀ g, E186 g → WA Z 186 [some (.ref 67), some (.int x1), some (.int x2), none, none, none] [] g) : ∀ (n : Nat) (x3 : Int32) (g : fp_G), w_X9_findFar_56 n x1 x2 x3 g Z.2.2.2.1 E186 → WA Z 56 [some (.ref 67), some (.int x1), some (.int x2), some (.int x3), none, none] [] g := by
  intro n
  induction n with
  | zero => intro x3 g h; exact h.elim
  | succ n ih =>
    intro x3 g h
    rw [w_X9_findFar_56] at h
    refine wa_iload_n C (i := 3) dX9_findFar_56 rfl rfl ?_
    refine wa_aload_n C (i := 0) dX9_findFar_57 rfl rfl ?_
    refine wa_getI C (j := 12) lq_67 sh_67 rfl in_X9 (by decide) rfl f_X9_183 dX9_findFar_58 ?_
    refine wa_icmp_ge C (tgt := 186) dX9_findFar_61 (by decide) h (fun h => ?_) (fun h => ?_)
    · exact WA.weak (hE186 _ h) ⟨rfl, ⟨rfl, ⟨rfl, trivial⟩⟩⟩
    · refine wa_bipush C (v := 12) dX9_findFar_64 (by decide) ?_
      refine wa_iload_n C (i := 3) dX9_findFar_66 rfl rfl ?_
      refine wa_imul C dX9_findFar_67 ?_
      refine wa_aload_n C (i := 0) dX9_findFar_68 rfl rfl ?_
      refine wa_getR C (j := 2) lq_67 sh_67 rfl in_X9 (by decide) rfl f_X9_16 dX9_findFar_69 ?_
      refine wa_iload_n C (i := 2) dX9_findFar_72 rfl rfl ?_
      refine wa_iald C lq_70 sh_70 dX9_findFar_73 h (fun v1 h => ?_)
      refine wa_iadd C dX9_findFar_74 ?_
      refine wa_istore C (i := 4) dX9_findFar_75 (by rw [hn]; decide) rfl rfl ?_
      refine wa_bipush C (v := 12) dX9_findFar_77 (by decide) ?_
      refine wa_iload_n C (i := 3) dX9_findFar_79 rfl rfl ?_
      refine wa_imul C dX9_findFar_80 ?_
      refine wa_aload_n C (i := 0) dX9_findFar_81 rfl rfl ?_
      refine wa_getR C (j := 3) lq_67 sh_67 rfl in_X9 (by decide) rfl f_X9_19 dX9_findFar_82 ?_
      refine wa_iload_n C (i := 2) dX9_findFar_85 rfl rfl ?_
      refine wa_iald C lq_71 sh_71 dX9_findFar_86 h (fun v2 h => ?_)
      refine wa_iadd C dX9_findFar_87 ?_
      refine wa_istore C (i := 5) dX9_findFar_88 (by rw [hn]; decide) rfl rfl ?_
      refine wa_aload_n C (i := 0) dX9_findFar_90 rfl rfl ?_
      refine wa_getR C (j := 10) lq_67 sh_67 rfl in_X9 (by decide) rfl f_X9_40 dX9_findFar_91 ?_
      refine wa_iload C dX9_findFar_94 rfl ?_
      refine wa_iald C lq_78 sh_78 dX9_findFar_96 h (fun v3 h => ?_)
      refine wa_aload_n C (i := 0) dX9_findFar_97 rfl rfl ?_
      refine wa_getR C (j := 4) lq_67 sh_67 rfl in_X9 (by decide) rfl f_X9_22 dX9_findFar_98 ?_
      refine wa_iload_n C (i := 2) dX9_findFar_101 rfl rfl ?_
      refine wa_iald C lq_72 sh_72 dX9_findFar_102 h (fun v4 h => ?_)
      refine wa_iadd C dX9_findFar_103 ?_
      refine wa_aload_n C (i := 0) dX9_findFar_104 rfl rfl ?_
      refine wa_getR C (j := 10) lq_67 sh_67 rfl in_X9 (by decide) rfl f_X9_40 dX9_findFar_105 ?_
      refine wa_iload C dX9_findFar_108 rfl ?_
      refine wa_iald C lq_78 sh_78 dX9_findFar_110 h (fun v5 h => ?_)
      refine fp_j0 (Q := fun g1 => WA Z 135 [some (.ref 67), some (.int x1), some (.int x2), some (.int x3), some (.int ((12 * x3) + v1)), some (.int ((12 * x3) + v2))] [] g1) h (fun g1 h => ?_) (fun J135 hJ135 h => ?_)
      · refine wa_aload_n C (i := 0) dX9_findFar_135 rfl rfl ?_
        refine wa_getR C (j := 10) lq_67 sh_67 rfl in_X9 (by decide) rfl f_X9_40 dX9_findFar_136 ?_
        refine wa_iload C dX9_findFar_139 rfl ?_
        refine wa_iald C lq_78 sh_78 dX9_findFar_141 h (fun v6 h => ?_)
        refine wa_aload_n C (i := 0) dX9_findFar_142 rfl rfl ?_
        refine wa_getR C (j := 4) lq_67 sh_67 rfl in_X9 (by decide) rfl f_X9_22 dX9_findFar_143 ?_
        refine wa_iload_n C (i := 2) dX9_findFar_146 rfl rfl ?_
        refine wa_iald C lq_72 sh_72 dX9_findFar_147 h (fun v7 h => ?_)
        refine wa_iadd C dX9_findFar_148 ?_
        refine wa_aload_n C (i := 0) dX9_findFar_149 rfl rfl ?_
        refine wa_getR C (j := 10) lq_67 sh_67 rfl in_X9 (by decide) rfl f_X9_40 dX9_findFar_150 ?_
        refine wa_iload C dX9_findFar_153 rfl ?_
        refine wa_iald C lq_78 sh_78 dX9_findFar_155 h (fun v8 h => ?_)
        refine fp_j0 (Q := fun g2 => WA Z 180 [some (.ref 67), some (.int x1), some (.int x2), some (.int x3), none, none] [] g2) h (fun g2 h => ?_) (fun J180 hJ180 h => ?_)
        · refine wa_iinc C (i := 3) dX9_findFar_180 rfl (fp_inc1 _) (by rw [hn]; decide) rfl rfl ?_
          refine wa_goto C (tgt := 56) dX9_findFar_183 (by decide) ?_
          exact WA.weak (ih _ _ h) ⟨rfl, ⟨rfl, ⟨rfl, ⟨rfl, trivial⟩⟩⟩⟩
        refine wa_icmp_ge C (tgt := 180) dX9_findFar_156 (by decide) h (fun h => ?_) (fun h => ?_)
        · exact WA.weak (hJ180 _ h) ⟨rfl, ⟨rfl, ⟨rfl, ⟨rfl, trivial⟩⟩⟩⟩
        · refine wa_aload_n C (i := 0) dX9_findFar_159 rfl rfl ?_
          refine wa_getR C (j := 10) lq_67 sh_67 rfl in_X9 (by decide) rfl f_X9_40 dX9_findFar_160 ?_
          refine wa_iload C dX9_findFar_163 rfl ?_
          refine wa_aload_n C (i := 0) dX9_findFar_165 rfl rfl ?_
          refine wa_getR C (j := 10) lq_67 sh_67 rfl in_X9 (by decide) rfl f_X9_40 dX9_findFar_166 ?_
          refine wa_iload C dX9_findFar_169 rfl ?_
          refine wa_iald C lq_78 sh_78 dX9_findFar_171 h (fun v9 h => ?_)
          refine wa_aload_n C (i := 0) dX9_findFar_172 rfl rfl ?_
          refine wa_getR C (j := 4) lq_67 sh_67 rfl in_X9 (by decide) rfl f_X9_22 dX9_findFar_173 ?_
          refine wa_iload_n C (i := 2) dX9_findFar_176 rfl rfl ?_
          refine wa_iald C lq_72 sh_72 dX9_findFar_177 h (fun v10 h => ?_)
          refine wa_iadd C dX9_findFar_178 ?_
          refine wa_iast C lq_78 sh_78 dX9_findFar_179 h (fun g3 h => ?_)
          exact WA.weak (hJ180 _ h) ⟨rfl, ⟨rfl, ⟨rfl, ⟨rfl, trivial⟩⟩⟩⟩
      refine wa_icmp_ge C (tgt := 135) dX9_findFar_111 (by decide) h (fun h => ?_) (fun h => ?_)
      · exact WA.weak (hJ135 _ h) ⟨rfl, ⟨rfl, ⟨rfl, ⟨rfl, ⟨rfl, ⟨rfl, trivial⟩⟩⟩⟩⟩⟩
      · refine wa_aload_n C (i := 0) dX9_findFar_114 rfl rfl ?_
        refine wa_getR C (j := 10) lq_67 sh_67 rfl in_X9 (by decide) rfl f_X9_40 dX9_findFar_115 ?_
        refine wa_iload C dX9_findFar_118 rfl ?_
        refine wa_aload_n C (i := 0) dX9_findFar_120 rfl rfl ?_
        refine wa_getR C (j := 10) lq_67 sh_67 rfl in_X9 (by decide) rfl f_X9_40 dX9_findFar_121 ?_
        refine wa_iload C dX9_findFar_124 rfl ?_
        refine wa_iald C lq_78 sh_78 dX9_findFar_126 h (fun v11 h => ?_)
        refine wa_aload_n C (i := 0) dX9_findFar_127 rfl rfl ?_
        refine wa_getR C (j := 4) lq_67 sh_67 rfl in_X9 (by decide) rfl f_X9_22 dX9_findFar_128 ?_
        refine wa_iload_n C (i := 2) dX9_findFar_131 rfl rfl ?_
        refine wa_iald C lq_72 sh_72 dX9_findFar_132 h (fun v12 h => ?_)
        refine wa_iadd C dX9_findFar_133 ?_
        refine wa_iast C lq_78 sh_78 dX9_findFar_134 h (fun g4 h => ?_)
        exact WA.weak (hJ135 _ h) ⟨rfl, ⟨rfl, ⟨rfl, ⟨rfl, ⟨rfl, ⟨rfl, trivial⟩⟩⟩⟩⟩⟩

set_option maxRecDepth 20000 in
theorem ok_X9_findFar_46 {Z : fp_Z} (C : fp_C Z cX9_findFar RX9 ((Option.none : Option Jvm.ClassFile.FieldType))) (hv : fp_V Z true) (hn : Z.2.2.2.2.1 = 6) (hd : Z.2.2.2.2.2.1 = 1) {x1 : Int32} {E192 : fp_G → Prop} (hE192 : ∀ g, E192 g → WA Z 192 [some (.ref 67), some (.int x1), none, none, none, none] [] g) : ∀ (n : Nat) (x2 : Int32) (g : fp_G), w_X9_findFar_46 n x1 x2 g Z.2.2.2.1 E192 → WA Z 46 [some (.ref 67), some (.int x1), some (.int x2), none, none, none] [] g := by
  intro n
  induction n with
  | zero => intro x2 g h; exact h.elim
  | succ n ih =>
    intro x2 g h
    rw [w_X9_findFar_46] at h
    refine wa_iload_n C (i := 2) dX9_findFar_46 rfl rfl ?_
    refine wa_aload_n C (i := 0) dX9_findFar_47 rfl rfl ?_
    refine wa_getI C (j := 13) lq_67 sh_67 rfl in_X9 (by decide) rfl f_X9_200 dX9_findFar_48 ?_
    refine wa_icmp_ge C (tgt := 192) dX9_findFar_51 (by decide) h (fun h => ?_) (fun h => ?_)
    · exact WA.weak (hE192 _ h) ⟨rfl, ⟨rfl, trivial⟩⟩
    · refine wa_iconst C (v := 0) dX9_findFar_54 (by decide) ?_
      refine wa_istore_n C (i := 3) dX9_findFar_55 rfl (by rw [hn]; decide) rfl rfl ?_
      obtain ⟨n56, h⟩ := h
      refine WA.weak (ok_X9_findFar_56 C hv hn hd (fun g5 h => ?_) n56 _ _ h) ⟨rfl, ⟨rfl, ⟨rfl, ⟨rfl, trivial⟩⟩⟩⟩
      · refine wa_iinc C (i := 2) dX9_findFar_186 rfl (fp_inc1 _) (by rw [hn]; decide) rfl rfl ?_
        refine wa_goto C (tgt := 46) dX9_findFar_189 (by decide) ?_
        exact WA.weak (ih _ _ h) ⟨rfl, ⟨rfl, ⟨rfl, trivial⟩⟩⟩

set_option maxRecDepth 20000 in
theorem ok_X9_findFar_36 {Z : fp_Z} (C : fp_C Z cX9_findFar RX9 ((Option.none : Option Jvm.ClassFile.FieldType))) (hv : fp_V Z true) (hn : Z.2.2.2.2.1 = 6) (hd : Z.2.2.2.2.2.1 = 1) : ∀ (n : Nat) (x1 : Int32) (g : fp_G), w_X9_findFar_36 n x1 g Z.2.2.2.1 → WA Z 36 [some (.ref 67), some (.int x1), none, none, none, none] [] g := by
  intro n
  induction n with
  | zero => intro x1 g h; exact h.elim
  | succ n ih =>
    intro x1 g h
    rw [w_X9_findFar_36] at h
    refine wa_iload_n C (i := 1) dX9_findFar_36 rfl rfl ?_
    refine wa_aload_n C (i := 0) dX9_findFar_37 rfl rfl ?_
    refine wa_getI C (j := 12) lq_67 sh_67 rfl in_X9 (by decide) rfl f_X9_183 dX9_findFar_38 ?_
    refine wa_icmp_ge C (tgt := 198) dX9_findFar_41 (by decide) h (fun h => ?_) (fun h => ?_)
    · exact wa_vret C hv rfl dX9_findFar_198 h
    · refine wa_iconst C (v := 0) dX9_findFar_44 (by decide) ?_
      refine wa_istore_n C (i := 2) dX9_findFar_45 rfl (by rw [hn]; decide) rfl rfl ?_
      obtain ⟨n46, h⟩ := h
      refine WA.weak (ok_X9_findFar_46 C hv hn hd (fun g6 h => ?_) n46 _ _ h) ⟨rfl, ⟨rfl, ⟨rfl, trivial⟩⟩⟩
      · refine wa_iinc C (i := 1) dX9_findFar_192 rfl (fp_inc1 _) (by rw [hn]; decide) rfl rfl ?_
        refine wa_goto C (tgt := 36) dX9_findFar_195 (by decide) ?_
        exact WA.weak (ih _ _ h) ⟨rfl, ⟨rfl, trivial⟩⟩

set_option maxRecDepth 20000 in
theorem ok_X9_findFar_2 {Z : fp_Z} (C : fp_C Z cX9_findFar RX9 ((Option.none : Option Jvm.ClassFile.FieldType))) (hv : fp_V Z true) (hn : Z.2.2.2.2.1 = 6) (hd : Z.2.2.2.2.2.1 = 1) : ∀ (n : Nat) (x1 : Int32) (g : fp_G), w_X9_findFar_2 n x1 g Z.2.2.2.1 → WA Z 2 [some (.ref 67), some (.int x1), none, none, none, none] [] g := by
  intro n
  induction n with
  | zero => intro x1 g h; exact h.elim
  | succ n ih =>
    intro x1 g h
    rw [w_X9_findFar_2] at h
    refine wa_iload_n C (i := 1) dX9_findFar_2 rfl rfl ?_
    refine wa_sipush C (v := 144) dX9_findFar_3 (by decide) ?_
    refine wa_icmp_ge C (tgt := 34) dX9_findFar_6 (by decide) h (fun h => ?_) (fun h => ?_)
    · refine wa_iconst C (v := 0) dX9_findFar_34 (by decide) ?_
      refine wa_istore_n C (i := 1) dX9_findFar_35 rfl (by rw [hn]; decide) rfl rfl ?_
      obtain ⟨n36, h⟩ := h
      exact WA.weak (ok_X9_findFar_36 C hv hn hd n36 _ _ h) ⟨rfl, ⟨rfl, trivial⟩⟩
    · refine wa_aload_n C (i := 0) dX9_findFar_9 rfl rfl ?_
      refine wa_getR C (j := 10) lq_67 sh_67 rfl in_X9 (by decide) rfl f_X9_40 dX9_findFar_10 ?_
      refine wa_iload_n C (i := 1) dX9_findFar_13 rfl rfl ?_
      refine wa_iload_n C (i := 1) dX9_findFar_14 rfl rfl ?_
      refine wa_bipush C (v := 13) dX9_findFar_15 (by decide) ?_
      refine wa_irem C dX9_findFar_17 h (fun h => ?_)
      refine fp_k1 (Q := fun z0j27 => WA Z 27 [some (.ref 67), some (.int x1), none, none, none, none] [.int z0j27, .int x1, .ref 78] g) h (fun z0j27 h => ?_) (fun J27 hJ27 h => ?_)
      · refine wa_iast C lq_78 sh_78 dX9_findFar_27 h (fun g7 h => ?_)
        refine wa_iinc C (i := 1) dX9_findFar_28 rfl (fp_inc1 _) (by rw [hn]; decide) rfl rfl ?_
        refine wa_goto C (tgt := 2) dX9_findFar_31 (by decide) ?_
        exact WA.weak (ih _ _ h) ⟨rfl, ⟨rfl, trivial⟩⟩
      refine wa_if_ne C (tgt := 25) dX9_findFar_18 (by decide) h (fun h => ?_) (fun h => ?_)
      · refine wa_iconst C (v := 0) dX9_findFar_21 (by decide) ?_
        refine wa_goto C (tgt := 27) dX9_findFar_22 (by decide) ?_
        exact WA.weak (hJ27 _ h) ⟨rfl, ⟨rfl, trivial⟩⟩
      · refine wa_ldc C (v := 1000000) k_X9_213 dX9_findFar_25 ?_
        exact WA.weak (hJ27 _ h) ⟨rfl, ⟨rfl, trivial⟩⟩

set_option maxRecDepth 20000 in
theorem ok_X9_findFar {l : Launch} {E : fp_E} {g : fp_G} {K : Int32 → fp_G → Prop} (h : w_X9_findFar  g K) : fp_M l E yX9_findFar cX9_findFar 6 ((Option.none : Option Jvm.ClassFile.FieldType)) true 1 [.ref 67] g K := by
  unfold w_X9_findFar at h
  refine fp_enter rfl [some (.ref 67), none, none, none, none, none] (Nat.le_of_ble_eq_true rfl) (fun q hq => hq) (fun Z hE hl hv hK hn hd C => ?_)
  subst hE hl hK
  refine wa_iconst C (v := 0) dX9_findFar_0 (by decide) ?_
  refine wa_istore_n C (i := 1) dX9_findFar_1 rfl (by rw [hn]; decide) rfl rfl ?_
  obtain ⟨n2, h⟩ := h
  exact WA.weak (ok_X9_findFar_2 C hv hn hd n2 _ _ h) ⟨rfl, ⟨rfl, trivial⟩⟩

set_option maxRecDepth 20000 in
theorem ok_X9_far {l : Launch} {E : fp_E} {x1 : Int32} {x2 : Int32} {g : fp_G} {K : Int32 → fp_G → Prop} (h : w_X9_far x1 x2 g K) : fp_M l E yX9_far cX9_far 3 ((Option.some Jvm.ClassFile.FieldType.int)) false 2 [.ref 67, .int x1, .int x2] g K := by
  unfold w_X9_far at h
  refine fp_enter rfl [some (.ref 67), some (.int x1), some (.int x2)] (Nat.le_of_ble_eq_true rfl) (fun q hq => hq) (fun Z hE hl hv hK hn hd C => ?_)
  subst hE hl hK
  refine wa_aload_n C (i := 0) dX9_far_0 rfl rfl ?_
  refine wa_iload_n C (i := 1) dX9_far_1 rfl rfl ?_
  refine wa_callVi C lq_67 sh_67 rfl s_X9_196 i_X9_isOffice e_X9_isOffice dX9_far_2 (ok_X9_isOffice h) rfl rfl (Nat.le_of_ble_eq_true rfl) (by rw [hd]; decide) (fun v1 g1 h => ?_)
  refine fp_j0 (Q := fun g2 => WA Z 16 [some (.ref 67), none, none] [] g2) h (fun g2 h => ?_) (fun J16 hJ16 h => ?_)
  · refine wa_aload_n C (i := 0) dX9_far_16 rfl rfl ?_
    refine wa_iconst C (v := (-1)) dX9_far_17 (by decide) ?_
    refine wa_callVi C lq_67 sh_67 rfl s_X9_192 i_X9_no e_X9_no dX9_far_18 (ok_X9_no h) rfl rfl (Nat.le_of_ble_eq_true rfl) (by rw [hd]; decide) (fun v2 g3 h => ?_)
    exact wa_iret C hv rfl dX9_far_21 h
  refine wa_if_eq C (tgt := 16) dX9_far_5 (by decide) h (fun h => ?_) (fun h => ?_)
  · exact WA.weak (hJ16 _ h) ⟨rfl, trivial⟩
  · refine wa_aload_n C (i := 0) dX9_far_8 rfl rfl ?_
    refine wa_iload_n C (i := 2) dX9_far_9 rfl rfl ?_
    refine wa_callVi C lq_67 sh_67 rfl s_X9_196 i_X9_isOffice e_X9_isOffice dX9_far_10 (ok_X9_isOffice h) rfl rfl (Nat.le_of_ble_eq_true rfl) (by rw [hd]; decide) (fun v3 g4 h => ?_)
    refine wa_if_ne C (tgt := 22) dX9_far_13 (by decide) h (fun h => ?_) (fun h => ?_)
    · exact WA.weak (hJ16 _ h) ⟨rfl, trivial⟩
    · refine wa_aload_n C (i := 0) dX9_far_22 rfl rfl ?_
      refine wa_callVv C lq_67 sh_67 rfl s_X9_214 i_X9_findFar e_X9_findFar dX9_far_23 (ok_X9_findFar h) rfl rfl (Nat.le_of_ble_eq_true rfl) (by rw [hd]; decide) (fun g5 h => ?_)
      refine wa_aload_n C (i := 0) dX9_far_26 rfl rfl ?_
      refine wa_getR C (j := 10) lq_67 sh_67 rfl in_X9 (by decide) rfl f_X9_40 dX9_far_27 ?_
      refine wa_bipush C (v := 12) dX9_far_30 (by decide) ?_
      refine wa_iload_n C (i := 1) dX9_far_32 rfl rfl ?_
      refine wa_imul C dX9_far_33 ?_
      refine wa_iload_n C (i := 2) dX9_far_34 rfl rfl ?_
      refine wa_iadd C dX9_far_35 ?_
      refine wa_iald C lq_78 sh_78 dX9_far_36 h (fun v5 h => ?_)
      refine wa_ldc C (v := 1000000) k_X9_213 dX9_far_37 ?_
      refine wa_icmp_lt C (tgt := 47) dX9_far_39 (by decide) h (fun h => ?_) (fun h => ?_)
      · refine wa_aload_n C (i := 0) dX9_far_47 rfl rfl ?_
        refine wa_getR C (j := 10) lq_67 sh_67 rfl in_X9 (by decide) rfl f_X9_40 dX9_far_48 ?_
        refine wa_bipush C (v := 12) dX9_far_51 (by decide) ?_
        refine wa_iload_n C (i := 1) dX9_far_53 rfl rfl ?_
        refine wa_imul C dX9_far_54 ?_
        refine wa_iload_n C (i := 2) dX9_far_55 rfl rfl ?_
        refine wa_iadd C dX9_far_56 ?_
        refine wa_iald C lq_78 sh_78 dX9_far_57 h (fun v6 h => ?_)
        exact wa_iret C hv rfl dX9_far_58 h
      · refine wa_bipush C (v := (-9)) dX9_far_42 (by decide) ?_
        refine wa_goto C (tgt := 58) dX9_far_44 (by decide) ?_
        exact wa_iret C hv rfl dX9_far_58 h

set_option maxRecDepth 20000 in
theorem ok_X9_lateOf {l : Launch} {E : fp_E} {x1 : Int32} {g : fp_G} {K : Int32 → fp_G → Prop} (h : w_X9_lateOf x1 g K) : fp_M l E yX9_lateOf cX9_lateOf 2 ((Option.some Jvm.ClassFile.FieldType.int)) false 1 [.ref 67, .int x1] g K := by
  unfold w_X9_lateOf at h
  refine fp_enter rfl [some (.ref 67), some (.int x1)] (Nat.le_of_ble_eq_true rfl) (fun q hq => hq) (fun Z hE hl hv hK hn hd C => ?_)
  subst hE hl hK
  refine wa_aload_n C (i := 0) dX9_lateOf_0 rfl rfl ?_
  refine wa_getR C (j := 11) lq_67 sh_67 rfl in_X9 (by decide) rfl f_X9_43 dX9_lateOf_1 ?_
  refine wa_iload_n C (i := 1) dX9_lateOf_4 rfl rfl ?_
  refine wa_zald C lq_79 sh_79 dX9_lateOf_5 h (fun v1 h => ?_)
  refine wa_if_eq C (tgt := 13) dX9_lateOf_6 (by decide) h (fun h => ?_) (fun h => ?_)
  · refine wa_aload_n C (i := 0) dX9_lateOf_13 rfl rfl ?_
    refine wa_getR C (j := 10) lq_67 sh_67 rfl in_X9 (by decide) rfl f_X9_40 dX9_lateOf_14 ?_
    refine wa_iload_n C (i := 1) dX9_lateOf_17 rfl rfl ?_
    refine wa_iald C lq_78 sh_78 dX9_lateOf_18 h (fun v2 h => ?_)
    refine wa_ldc C (v := 1000000) k_X9_213 dX9_lateOf_19 ?_
    refine wa_icmp_lt C (tgt := 29) dX9_lateOf_21 (by decide) h (fun h => ?_) (fun h => ?_)
    · refine wa_aload_n C (i := 0) dX9_lateOf_29 rfl rfl ?_
      refine wa_getR C (j := 10) lq_67 sh_67 rfl in_X9 (by decide) rfl f_X9_40 dX9_lateOf_30 ?_
      refine wa_iload_n C (i := 1) dX9_lateOf_33 rfl rfl ?_
      refine wa_iald C lq_78 sh_78 dX9_lateOf_34 h (fun v3 h => ?_)
      exact wa_iret C hv rfl dX9_lateOf_35 h
    · refine wa_bipush C (v := (-9)) dX9_lateOf_24 (by decide) ?_
      refine wa_goto C (tgt := 35) dX9_lateOf_26 (by decide) ?_
      exact wa_iret C hv rfl dX9_lateOf_35 h
  · refine wa_iconst C (v := 0) dX9_lateOf_9 (by decide) ?_
    refine wa_goto C (tgt := 35) dX9_lateOf_10 (by decide) ?_
    exact wa_iret C hv rfl dX9_lateOf_35 h

set_option maxRecDepth 20000 in
theorem ok_X9_late {l : Launch} {E : fp_E} {x1 : Int32} {g : fp_G} {K : Int32 → fp_G → Prop} (h : w_X9_late x1 g K) : fp_M l E yX9_late cX9_late 2 ((Option.some Jvm.ClassFile.FieldType.int)) false 2 [.ref 67, .int x1] g K := by
  unfold w_X9_late at h
  refine fp_enter rfl [some (.ref 67), some (.int x1)] (Nat.le_of_ble_eq_true rfl) (fun q hq => hq) (fun Z hE hl hv hK hn hd C => ?_)
  subst hE hl hK
  refine wa_aload_n C (i := 0) dX9_late_0 rfl rfl ?_
  refine wa_iload_n C (i := 1) dX9_late_1 rfl rfl ?_
  refine wa_callVi C lq_67 sh_67 rfl s_X9_196 i_X9_isOffice e_X9_isOffice dX9_late_2 (ok_X9_isOffice h) rfl rfl (Nat.le_of_ble_eq_true rfl) (by rw [hd]; decide) (fun v1 g1 h => ?_)
  refine wa_if_ne C (tgt := 14) dX9_late_5 (by decide) h (fun h => ?_) (fun h => ?_)
  · refine wa_aload_n C (i := 0) dX9_late_8 rfl rfl ?_
    refine wa_iconst C (v := (-1)) dX9_late_9 (by decide) ?_
    refine wa_callVi C lq_67 sh_67 rfl s_X9_192 i_X9_no e_X9_no dX9_late_10 (ok_X9_no h) rfl rfl (Nat.le_of_ble_eq_true rfl) (by rw [hd]; decide) (fun v4 g4 h => ?_)
    exact wa_iret C hv rfl dX9_late_13 h
  · refine wa_aload_n C (i := 0) dX9_late_14 rfl rfl ?_
    refine wa_callVv C lq_67 sh_67 rfl s_X9_214 i_X9_findFar e_X9_findFar dX9_late_15 (ok_X9_findFar h) rfl rfl (Nat.le_of_ble_eq_true rfl) (by rw [hd]; decide) (fun g2 h => ?_)
    refine wa_aload_n C (i := 0) dX9_late_18 rfl rfl ?_
    refine wa_iload_n C (i := 1) dX9_late_19 rfl rfl ?_
    refine wa_callVi C lq_67 sh_67 rfl s_X9_217 i_X9_lateOf e_X9_lateOf dX9_late_20 (ok_X9_lateOf h) rfl rfl (Nat.le_of_ble_eq_true rfl) (by rw [hd]; decide) (fun v3 g3 h => ?_)
    exact wa_iret C hv rfl dX9_late_23 h

set_option maxRecDepth 20000 in
theorem ok_X9_isHeard {l : Launch} {E : fp_E} {x1 : Int32} {x2 : Int32} {x3 : Int32} {g : fp_G} {K : Int32 → fp_G → Prop} (h : w_X9_isHeard x1 x2 x3 g K) : fp_M l E yX9_isHeard cX9_isHeard 5 ((Option.some Jvm.ClassFile.FieldType.boolean)) false 2 [.ref 67, .int x1, .int x2, .int x3] g K := by
  unfold w_X9_isHeard at h
  refine fp_enter rfl [some (.ref 67), some (.int x1), some (.int x2), some (.int x3), none] (Nat.le_of_ble_eq_true rfl) (fun q hq => hq) (fun Z hE hl hv hK hn hd C => ?_)
  subst hE hl hK
  refine wa_iload_n C (i := 2) dX9_isHeard_0 rfl rfl ?_
  refine wa_if_ge C (tgt := 15) dX9_isHeard_1 (by decide) h (fun h => ?_) (fun h => ?_)
  · refine wa_aload_n C (i := 0) dX9_isHeard_15 rfl rfl ?_
    refine wa_iload_n C (i := 2) dX9_isHeard_16 rfl rfl ?_
    refine wa_callVi C lq_67 sh_67 rfl s_X9_217 i_X9_lateOf e_X9_lateOf dX9_isHeard_17 (ok_X9_lateOf h) rfl rfl (Nat.le_of_ble_eq_true rfl) (by rw [hd]; decide) (fun v1 g1 h => ?_)
    refine wa_istore C (i := 4) dX9_isHeard_20 (by rw [hn]; decide) rfl rfl ?_
    refine wa_iload C dX9_isHeard_22 rfl ?_
    refine fp_k0 (Q := WA Z 39 [none, none, none, none, none] [] g1) h (fun  h => ?_) (fun J39 hJ39 h => ?_)
    · refine wa_iconst C (v := 0) dX9_isHeard_39 (by decide) ?_
      exact wa_zret C hv rfl rfl dX9_isHeard_40 h
    refine wa_if_lt C (tgt := 39) dX9_isHeard_24 (by decide) h (fun h => ?_) (fun h => ?_)
    · exact WA.weak (hJ39  h) trivial
    · refine wa_iload_n C (i := 1) dX9_isHeard_27 rfl rfl ?_
      refine wa_iload C dX9_isHeard_28 rfl ?_
      refine wa_iadd C dX9_isHeard_30 ?_
      refine wa_iload_n C (i := 3) dX9_isHeard_31 rfl rfl ?_
      refine wa_icmp_gt C (tgt := 39) dX9_isHeard_32 (by decide) h (fun h => ?_) (fun h => ?_)
      · exact WA.weak (hJ39  h) trivial
      · refine wa_iconst C (v := 1) dX9_isHeard_35 (by decide) ?_
        refine wa_goto C (tgt := 40) dX9_isHeard_36 (by decide) ?_
        exact wa_zret C hv rfl rfl dX9_isHeard_40 h
  · refine wa_iload_n C (i := 1) dX9_isHeard_4 rfl rfl ?_
    refine wa_iload_n C (i := 3) dX9_isHeard_5 rfl rfl ?_
    refine wa_icmp_gt C (tgt := 13) dX9_isHeard_6 (by decide) h (fun h => ?_) (fun h => ?_)
    · refine wa_iconst C (v := 0) dX9_isHeard_13 (by decide) ?_
      exact wa_zret C hv rfl rfl dX9_isHeard_14 h
    · refine wa_iconst C (v := 1) dX9_isHeard_9 (by decide) ?_
      refine wa_goto C (tgt := 14) dX9_isHeard_10 (by decide) ?_
      exact wa_zret C hv rfl rfl dX9_isHeard_14 h

set_option maxRecDepth 20000 in
theorem ok_X9_isUnit {l : Launch} {E : fp_E} {x0 : Int32} {g : fp_G} {K : Int32 → fp_G → Prop} (h : w_X9_isUnit x0 g K) : fp_M l E yX9_isUnit cX9_isUnit 1 ((Option.some Jvm.ClassFile.FieldType.boolean)) false 1 [.int x0] g K := by
  unfold w_X9_isUnit at h
  refine fp_enter rfl [some (.int x0)] (Nat.le_of_ble_eq_true rfl) (fun q hq => hq) (fun Z hE hl hv hK hn hd C => ?_)
  subst hE hl hK
  refine wa_iload_n C (i := 0) dX9_isUnit_0 rfl rfl ?_
  refine fp_k0 (Q := WA Z 14 [none] [] g) h (fun  h => ?_) (fun J14 hJ14 h => ?_)
  · refine wa_iconst C (v := 0) dX9_isUnit_14 (by decide) ?_
    exact wa_zret C hv rfl rfl dX9_isUnit_15 h
  refine wa_if_lt C (tgt := 14) dX9_isUnit_1 (by decide) h (fun h => ?_) (fun h => ?_)
  · exact WA.weak (hJ14  h) trivial
  · refine wa_iload_n C (i := 0) dX9_isUnit_4 rfl rfl ?_
    refine wa_bipush C (v := 16) dX9_isUnit_5 (by decide) ?_
    refine wa_icmp_ge C (tgt := 14) dX9_isUnit_7 (by decide) h (fun h => ?_) (fun h => ?_)
    · exact WA.weak (hJ14  h) trivial
    · refine wa_iconst C (v := 1) dX9_isUnit_10 (by decide) ?_
      refine wa_goto C (tgt := 15) dX9_isUnit_11 (by decide) ?_
      exact wa_zret C hv rfl rfl dX9_isUnit_15 h

set_option maxRecDepth 20000 in
theorem ok_X9_isMan {l : Launch} {E : fp_E} {x1 : Int32} {g : fp_G} {K : Int32 → fp_G → Prop} (h : w_X9_isMan x1 g K) : fp_M l E yX9_isMan cX9_isMan 2 ((Option.some Jvm.ClassFile.FieldType.boolean)) false 1 [.ref 67, .int x1] g K := by
  unfold w_X9_isMan at h
  refine fp_enter rfl [some (.ref 67), some (.int x1)] (Nat.le_of_ble_eq_true rfl) (fun q hq => hq) (fun Z hE hl hv hK hn hd C => ?_)
  subst hE hl hK
  refine wa_iload_n C (i := 1) dX9_isMan_0 rfl rfl ?_
  refine fp_k0 (Q := WA Z 16 [none, none] [] g) h (fun  h => ?_) (fun J16 hJ16 h => ?_)
  · refine wa_iconst C (v := 0) dX9_isMan_16 (by decide) ?_
    exact wa_zret C hv rfl rfl dX9_isMan_17 h
  refine wa_if_lt C (tgt := 16) dX9_isMan_1 (by decide) h (fun h => ?_) (fun h => ?_)
  · exact WA.weak (hJ16  h) trivial
  · refine wa_iload_n C (i := 1) dX9_isMan_4 rfl rfl ?_
    refine wa_aload_n C (i := 0) dX9_isMan_5 rfl rfl ?_
    refine wa_getI C (j := 27) lq_67 sh_67 rfl in_X9 (by decide) rfl f_X9_220 dX9_isMan_6 ?_
    refine wa_icmp_ge C (tgt := 16) dX9_isMan_9 (by decide) h (fun h => ?_) (fun h => ?_)
    · exact WA.weak (hJ16  h) trivial
    · refine wa_iconst C (v := 1) dX9_isMan_12 (by decide) ?_
      refine wa_goto C (tgt := 17) dX9_isMan_13 (by decide) ?_
      exact wa_zret C hv rfl rfl dX9_isMan_17 h
